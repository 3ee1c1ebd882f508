noncomputable def q_readDeed (m : Nat → Nat → Int32) (W : Nat → Int32) (p : Nat) (t : Nat) (L : Nat) : Int32 × (Nat → Int32) × Nat × Nat := (bif zc2 .eq (q_kindHere m ((q_letters m p).1) ((q_letters m p).2)) (-1) then ((Int32.ofNat 0), W, (q_letters m p).1, (q_letters m p).2) else (bif zc2 .ne (Int32.ofNat L) (Int32.ofNat 24) then (bif Nat.beq ((((q_kindHere m ((q_letters m p).1) ((q_letters m p).2))).toNatClampNeg)) 0 then ((q_readTo m ((upd ((upd ((upd W ((376 + 103 * t + ((55 + (2 * L))))) ((Int32.ofNat (((q_kindHere m ((q_letters m p).1) ((q_letters m p).2))).toNatClampNeg))))) (((376 + 103 * t + ((55 + (2 * L)))) + 1)) ((Int32.ofNat 0)))) ((376 + 103 * t + 22)) ((Int32.ofNat (L + 1))))) ((q_letters m p).1) (((376 + 103 * t + ((55 + (2 * L)))) + 1)) ((Int32.ofNat 0)) ((Int32.ofNat 3))).1, (q_readTo m ((upd ((upd ((upd W ((376 + 103 * t + ((55 + (2 * L))))) ((Int32.ofNat (((q_kindHere m ((q_letters m p).1) ((q_letters m p).2))).toNatClampNeg))))) (((376 + 103 * t + ((55 + (2 * L)))) + 1)) ((Int32.ofNat 0)))) ((376 + 103 * t + 22)) ((Int32.ofNat (L + 1))))) ((q_letters m p).1) (((376 + 103 * t + ((55 + (2 * L)))) + 1)) ((Int32.ofNat 0)) ((Int32.ofNat 3))).2.1, (q_readTo m ((upd ((upd ((upd W ((376 + 103 * t + ((55 + (2 * L))))) ((Int32.ofNat (((q_kindHere m ((q_letters m p).1) ((q_letters m p).2))).toNatClampNeg))))) (((376 + 103 * t + ((55 + (2 * L)))) + 1)) ((Int32.ofNat 0)))) ((376 + 103 * t + 22)) ((Int32.ofNat (L + 1))))) ((q_letters m p).1) (((376 + 103 * t + ((55 + (2 * L)))) + 1)) ((Int32.ofNat 0)) ((Int32.ofNat 3))).2.2.1, (q_readTo m ((upd ((upd ((upd W ((376 + 103 * t + ((55 + (2 * L))))) ((Int32.ofNat (((q_kindHere m ((q_letters m p).1) ((q_letters m p).2))).toNatClampNeg))))) (((376 + 103 * t + ((55 + (2 * L)))) + 1)) ((Int32.ofNat 0)))) ((376 + 103 * t + 22)) ((Int32.ofNat (L + 1))))) ((q_letters m p).1) (((376 + 103 * t + ((55 + (2 * L)))) + 1)) ((Int32.ofNat 0)) ((Int32.ofNat 3))).2.2.2) else (bif Nat.beq ((((q_kindHere m ((q_letters m p).1) ((q_letters m p).2))).toNatClampNeg)) 1 then ((q_readTo m ((upd ((upd ((upd W ((376 + 103 * t + ((55 + (2 * L))))) ((Int32.ofNat (((q_kindHere m ((q_letters m p).1) ((q_letters m p).2))).toNatClampNeg))))) (((376 + 103 * t + ((55 + (2 * L)))) + 1)) ((Int32.ofNat 0)))) ((376 + 103 * t + 22)) ((Int32.ofNat (L + 1))))) ((q_letters m p).1) (((376 + 103 * t + ((55 + (2 * L)))) + 1)) ((Int32.ofNat 0)) ((Int32.ofNat 3))).1, (q_readTo m ((upd ((upd ((upd W ((376 + 103 * t + ((55 + (2 * L))))) ((Int32.ofNat (((q_kindHere m ((q_letters m p).1) ((q_letters m p).2))).toNatClampNeg))))) (((376 + 103 * t + ((55 + (2 * L)))) + 1)) ((Int32.ofNat 0)))) ((376 + 103 * t + 22)) ((Int32.ofNat (L + 1))))) ((q_letters m p).1) (((376 + 103 * t + ((55 + (2 * L)))) + 1)) ((Int32.ofNat 0)) ((Int32.ofNat 3))).2.1, (q_readTo m ((upd ((upd ((upd W ((376 + 103 * t + ((55 + (2 * L))))) ((Int32.ofNat (((q_kindHere m ((q_letters m p).1) ((q_letters m p).2))).toNatClampNeg))))) (((376 + 103 * t + ((55 + (2 * L)))) + 1)) ((Int32.ofNat 0)))) ((376 + 103 * t + 22)) ((Int32.ofNat (L + 1))))) ((q_letters m p).1) (((376 + 103 * t + ((55 + (2 * L)))) + 1)) ((Int32.ofNat 0)) ((Int32.ofNat 3))).2.2.1, (q_readTo m ((upd ((upd ((upd W ((376 + 103 * t + ((55 + (2 * L))))) ((Int32.ofNat (((q_kindHere m ((q_letters m p).1) ((q_letters m p).2))).toNatClampNeg))))) (((376 + 103 * t + ((55 + (2 * L)))) + 1)) ((Int32.ofNat 0)))) ((376 + 103 * t + 22)) ((Int32.ofNat (L + 1))))) ((q_letters m p).1) (((376 + 103 * t + ((55 + (2 * L)))) + 1)) ((Int32.ofNat 0)) ((Int32.ofNat 3))).2.2.2) else (bif Nat.beq ((((q_kindHere m ((q_letters m p).1) ((q_letters m p).2))).toNatClampNeg)) 2 then ((q_readTo m ((upd ((upd ((upd W ((376 + 103 * t + ((55 + (2 * L))))) ((Int32.ofNat (((q_kindHere m ((q_letters m p).1) ((q_letters m p).2))).toNatClampNeg))))) (((376 + 103 * t + ((55 + (2 * L)))) + 1)) ((Int32.ofNat 0)))) ((376 + 103 * t + 22)) ((Int32.ofNat (L + 1))))) ((q_letters m p).1) (((376 + 103 * t + ((55 + (2 * L)))) + 1)) ((Int32.ofNat 0)) ((Int32.ofNat 31))).1, (q_readTo m ((upd ((upd ((upd W ((376 + 103 * t + ((55 + (2 * L))))) ((Int32.ofNat (((q_kindHere m ((q_letters m p).1) ((q_letters m p).2))).toNatClampNeg))))) (((376 + 103 * t + ((55 + (2 * L)))) + 1)) ((Int32.ofNat 0)))) ((376 + 103 * t + 22)) ((Int32.ofNat (L + 1))))) ((q_letters m p).1) (((376 + 103 * t + ((55 + (2 * L)))) + 1)) ((Int32.ofNat 0)) ((Int32.ofNat 31))).2.1, (q_readTo m ((upd ((upd ((upd W ((376 + 103 * t + ((55 + (2 * L))))) ((Int32.ofNat (((q_kindHere m ((q_letters m p).1) ((q_letters m p).2))).toNatClampNeg))))) (((376 + 103 * t + ((55 + (2 * L)))) + 1)) ((Int32.ofNat 0)))) ((376 + 103 * t + 22)) ((Int32.ofNat (L + 1))))) ((q_letters m p).1) (((376 + 103 * t + ((55 + (2 * L)))) + 1)) ((Int32.ofNat 0)) ((Int32.ofNat 31))).2.2.1, (q_readTo m ((upd ((upd ((upd W ((376 + 103 * t + ((55 + (2 * L))))) ((Int32.ofNat (((q_kindHere m ((q_letters m p).1) ((q_letters m p).2))).toNatClampNeg))))) (((376 + 103 * t + ((55 + (2 * L)))) + 1)) ((Int32.ofNat 0)))) ((376 + 103 * t + 22)) ((Int32.ofNat (L + 1))))) ((q_letters m p).1) (((376 + 103 * t + ((55 + (2 * L)))) + 1)) ((Int32.ofNat 0)) ((Int32.ofNat 31))).2.2.2) else (bif Nat.beq ((((q_kindHere m ((q_letters m p).1) ((q_letters m p).2))).toNatClampNeg)) 3 then ((q_readTo m ((upd ((upd ((upd W ((376 + 103 * t + ((55 + (2 * L))))) ((Int32.ofNat (((q_kindHere m ((q_letters m p).1) ((q_letters m p).2))).toNatClampNeg))))) (((376 + 103 * t + ((55 + (2 * L)))) + 1)) ((Int32.ofNat 0)))) ((376 + 103 * t + 22)) ((Int32.ofNat (L + 1))))) ((q_letters m p).1) (((376 + 103 * t + ((55 + (2 * L)))) + 1)) ((Int32.ofNat 0)) ((Int32.ofNat 31))).1, (q_readTo m ((upd ((upd ((upd W ((376 + 103 * t + ((55 + (2 * L))))) ((Int32.ofNat (((q_kindHere m ((q_letters m p).1) ((q_letters m p).2))).toNatClampNeg))))) (((376 + 103 * t + ((55 + (2 * L)))) + 1)) ((Int32.ofNat 0)))) ((376 + 103 * t + 22)) ((Int32.ofNat (L + 1))))) ((q_letters m p).1) (((376 + 103 * t + ((55 + (2 * L)))) + 1)) ((Int32.ofNat 0)) ((Int32.ofNat 31))).2.1, (q_readTo m ((upd ((upd ((upd W ((376 + 103 * t + ((55 + (2 * L))))) ((Int32.ofNat (((q_kindHere m ((q_letters m p).1) ((q_letters m p).2))).toNatClampNeg))))) (((376 + 103 * t + ((55 + (2 * L)))) + 1)) ((Int32.ofNat 0)))) ((376 + 103 * t + 22)) ((Int32.ofNat (L + 1))))) ((q_letters m p).1) (((376 + 103 * t + ((55 + (2 * L)))) + 1)) ((Int32.ofNat 0)) ((Int32.ofNat 31))).2.2.1, (q_readTo m ((upd ((upd ((upd W ((376 + 103 * t + ((55 + (2 * L))))) ((Int32.ofNat (((q_kindHere m ((q_letters m p).1) ((q_letters m p).2))).toNatClampNeg))))) (((376 + 103 * t + ((55 + (2 * L)))) + 1)) ((Int32.ofNat 0)))) ((376 + 103 * t + 22)) ((Int32.ofNat (L + 1))))) ((q_letters m p).1) (((376 + 103 * t + ((55 + (2 * L)))) + 1)) ((Int32.ofNat 0)) ((Int32.ofNat 31))).2.2.2) else (bif Nat.beq ((((q_kindHere m ((q_letters m p).1) ((q_letters m p).2))).toNatClampNeg)) 4 then ((q_readTo m ((upd ((upd ((upd W ((376 + 103 * t + ((55 + (2 * L))))) ((Int32.ofNat (((q_kindHere m ((q_letters m p).1) ((q_letters m p).2))).toNatClampNeg))))) (((376 + 103 * t + ((55 + (2 * L)))) + 1)) ((Int32.ofNat 0)))) ((376 + 103 * t + 22)) ((Int32.ofNat (L + 1))))) ((q_letters m p).1) (((376 + 103 * t + ((55 + (2 * L)))) + 1)) ((Int32.ofNat 0)) ((Int32.ofNat 999))).1, (q_readTo m ((upd ((upd ((upd W ((376 + 103 * t + ((55 + (2 * L))))) ((Int32.ofNat (((q_kindHere m ((q_letters m p).1) ((q_letters m p).2))).toNatClampNeg))))) (((376 + 103 * t + ((55 + (2 * L)))) + 1)) ((Int32.ofNat 0)))) ((376 + 103 * t + 22)) ((Int32.ofNat (L + 1))))) ((q_letters m p).1) (((376 + 103 * t + ((55 + (2 * L)))) + 1)) ((Int32.ofNat 0)) ((Int32.ofNat 999))).2.1, (q_readTo m ((upd ((upd ((upd W ((376 + 103 * t + ((55 + (2 * L))))) ((Int32.ofNat (((q_kindHere m ((q_letters m p).1) ((q_letters m p).2))).toNatClampNeg))))) (((376 + 103 * t + ((55 + (2 * L)))) + 1)) ((Int32.ofNat 0)))) ((376 + 103 * t + 22)) ((Int32.ofNat (L + 1))))) ((q_letters m p).1) (((376 + 103 * t + ((55 + (2 * L)))) + 1)) ((Int32.ofNat 0)) ((Int32.ofNat 999))).2.2.1, (q_readTo m ((upd ((upd ((upd W ((376 + 103 * t + ((55 + (2 * L))))) ((Int32.ofNat (((q_kindHere m ((q_letters m p).1) ((q_letters m p).2))).toNatClampNeg))))) (((376 + 103 * t + ((55 + (2 * L)))) + 1)) ((Int32.ofNat 0)))) ((376 + 103 * t + 22)) ((Int32.ofNat (L + 1))))) ((q_letters m p).1) (((376 + 103 * t + ((55 + (2 * L)))) + 1)) ((Int32.ofNat 0)) ((Int32.ofNat 999))).2.2.2) else (bif Nat.beq ((((q_kindHere m ((q_letters m p).1) ((q_letters m p).2))).toNatClampNeg)) 5 then ((q_readTo m ((upd ((upd ((upd W ((376 + 103 * t + ((55 + (2 * L))))) ((Int32.ofNat (((q_kindHere m ((q_letters m p).1) ((q_letters m p).2))).toNatClampNeg))))) (((376 + 103 * t + ((55 + (2 * L)))) + 1)) ((Int32.ofNat 0)))) ((376 + 103 * t + 22)) ((Int32.ofNat (L + 1))))) ((q_letters m p).1) (((376 + 103 * t + ((55 + (2 * L)))) + 1)) ((Int32.ofNat 0)) ((Int32.ofNat 999))).1, (q_readTo m ((upd ((upd ((upd W ((376 + 103 * t + ((55 + (2 * L))))) ((Int32.ofNat (((q_kindHere m ((q_letters m p).1) ((q_letters m p).2))).toNatClampNeg))))) (((376 + 103 * t + ((55 + (2 * L)))) + 1)) ((Int32.ofNat 0)))) ((376 + 103 * t + 22)) ((Int32.ofNat (L + 1))))) ((q_letters m p).1) (((376 + 103 * t + ((55 + (2 * L)))) + 1)) ((Int32.ofNat 0)) ((Int32.ofNat 999))).2.1, (q_readTo m ((upd ((upd ((upd W ((376 + 103 * t + ((55 + (2 * L))))) ((Int32.ofNat (((q_kindHere m ((q_letters m p).1) ((q_letters m p).2))).toNatClampNeg))))) (((376 + 103 * t + ((55 + (2 * L)))) + 1)) ((Int32.ofNat 0)))) ((376 + 103 * t + 22)) ((Int32.ofNat (L + 1))))) ((q_letters m p).1) (((376 + 103 * t + ((55 + (2 * L)))) + 1)) ((Int32.ofNat 0)) ((Int32.ofNat 999))).2.2.1, (q_readTo m ((upd ((upd ((upd W ((376 + 103 * t + ((55 + (2 * L))))) ((Int32.ofNat (((q_kindHere m ((q_letters m p).1) ((q_letters m p).2))).toNatClampNeg))))) (((376 + 103 * t + ((55 + (2 * L)))) + 1)) ((Int32.ofNat 0)))) ((376 + 103 * t + 22)) ((Int32.ofNat (L + 1))))) ((q_letters m p).1) (((376 + 103 * t + ((55 + (2 * L)))) + 1)) ((Int32.ofNat 0)) ((Int32.ofNat 999))).2.2.2) else (bif Nat.beq ((((q_kindHere m ((q_letters m p).1) ((q_letters m p).2))).toNatClampNeg)) 6 then ((q_readTo m ((upd ((upd ((upd W ((376 + 103 * t + ((55 + (2 * L))))) ((Int32.ofNat (((q_kindHere m ((q_letters m p).1) ((q_letters m p).2))).toNatClampNeg))))) (((376 + 103 * t + ((55 + (2 * L)))) + 1)) ((Int32.ofNat 0)))) ((376 + 103 * t + 22)) ((Int32.ofNat (L + 1))))) ((q_letters m p).1) (((376 + 103 * t + ((55 + (2 * L)))) + 1)) ((Int32.ofNat 1)) ((Int32.ofNat 9))).1, (q_readTo m ((upd ((upd ((upd W ((376 + 103 * t + ((55 + (2 * L))))) ((Int32.ofNat (((q_kindHere m ((q_letters m p).1) ((q_letters m p).2))).toNatClampNeg))))) (((376 + 103 * t + ((55 + (2 * L)))) + 1)) ((Int32.ofNat 0)))) ((376 + 103 * t + 22)) ((Int32.ofNat (L + 1))))) ((q_letters m p).1) (((376 + 103 * t + ((55 + (2 * L)))) + 1)) ((Int32.ofNat 1)) ((Int32.ofNat 9))).2.1, (q_readTo m ((upd ((upd ((upd W ((376 + 103 * t + ((55 + (2 * L))))) ((Int32.ofNat (((q_kindHere m ((q_letters m p).1) ((q_letters m p).2))).toNatClampNeg))))) (((376 + 103 * t + ((55 + (2 * L)))) + 1)) ((Int32.ofNat 0)))) ((376 + 103 * t + 22)) ((Int32.ofNat (L + 1))))) ((q_letters m p).1) (((376 + 103 * t + ((55 + (2 * L)))) + 1)) ((Int32.ofNat 1)) ((Int32.ofNat 9))).2.2.1, (q_readTo m ((upd ((upd ((upd W ((376 + 103 * t + ((55 + (2 * L))))) ((Int32.ofNat (((q_kindHere m ((q_letters m p).1) ((q_letters m p).2))).toNatClampNeg))))) (((376 + 103 * t + ((55 + (2 * L)))) + 1)) ((Int32.ofNat 0)))) ((376 + 103 * t + 22)) ((Int32.ofNat (L + 1))))) ((q_letters m p).1) (((376 + 103 * t + ((55 + (2 * L)))) + 1)) ((Int32.ofNat 1)) ((Int32.ofNat 9))).2.2.2) else ((Int32.ofNat 1), (upd ((upd ((upd W ((376 + 103 * t + ((55 + (2 * L))))) ((Int32.ofNat (((q_kindHere m ((q_letters m p).1) ((q_letters m p).2))).toNatClampNeg))))) (((376 + 103 * t + ((55 + (2 * L)))) + 1)) ((Int32.ofNat 0)))) ((376 + 103 * t + 22)) ((Int32.ofNat (L + 1)))), (q_letters m p).1, (q_letters m p).2)))))))) else ((Int32.ofNat 0), W, (q_letters m p).1, (q_letters m p).2)))
theorem p_readDeed {σ : Nat → Nat × (Nat → Int32)} {yy : (Nat → Nat → Int64) × Bool × Nat × Nat} {m : Nat → Nat → Int32} {W : Nat → Int32} {p b : Nat} {t : Nat} {L : Nat} {d : Nat} (hd : 5 ≤ d + 1) (hG : PG m) (hp : p ≤ pe m) (ht : t < 4) (hL : W (376 + 103 * t + 22) = Int32.ofNat L) (hL2 : L ≤ 24) : zEv σ (d + 1) 1852 0 [some (.ref 137), some (.int (Int32.ofNat t)), none, none] [] (zS1, zrow (TP m p b) 138 W, yy) (.inl (some (.int (q_readDeed m W p t L).1))) (zS1, zrow (TP m ((q_readDeed m W p t L).2.2.1) ((q_readDeed m W p t L).2.2.2)) 138 ((q_readDeed m W p t L).2.1), yy) := by
  refine zeP rfl rfl ?_
  refine zeCF rfl rfl rfl rfl rfl rfl (c_letters  (m := m) (W := W) (p := p) (b := b) hG hp) (by omega) ?_
  dsimp only [Option.toList, List.cons_append, List.nil_append]
  refine zeP rfl rfl ?_
  refine zeCF rfl rfl rfl rfl rfl rfl (c_kindHere  (m := m) (W := W) (p := (q_letters m p).1) (b := (q_letters m p).2) hG (letters_le hG hp).2 (by have := (letters_le hG hp).1; have := hG.2; omega)) (by omega) ?_
  dsimp only [Option.toList, List.cons_append, List.nil_append]
  refine zeP rfl rfl ?_
  refine zeP rfl rfl ?_
  refine zeK (v := -1) rfl rfl rfl ?_
  refine zeB2 rfl rfl (fun h1 => ?_) (fun h1 => ?_)
  · refine zeKn (c := 0) rfl rfl rfl ?_
    exact zeRe rfl rfl rfl rfl (by simp only [q_readDeed, h1, cond_true, cond_false] <;> rfl) (by simp only [q_readDeed, h1, cond_true, cond_false] <;> rfl)
  · refine zeP rfl rfl ?_
    refine zeP rfl rfl ?_
    refine zeKn (c := 22) rfl rfl rfl ?_
    refine zeCF rfl rfl rfl rfl rfl rfl (c_of (m := TP m ((q_letters m p).1) ((q_letters m p).2)) (W := W) (t := t) (k := 22) (by first | assumption | omega)) (by omega) ?_
    dsimp only [Option.toList, List.cons_append, List.nil_append]
    rw [(show q_of W t 22 = Int32.ofNat L from hL)]
    refine zeKn (c := 24) rfl rfl rfl ?_
    refine zeB2 rfl rfl (fun h2 => ?_) (fun h2 => ?_)
    · have hkd : (q_kindHere m ((q_letters m p).1) ((q_letters m p).2)) = Int32.ofNat ((q_kindHere m ((q_letters m p).1) ((q_letters m p).2))).toNatClampNeg ∧ ((q_kindHere m ((q_letters m p).1) ((q_letters m p).2))).toNatClampNeg ≤ 7 := (kindHere_k h1)
      refine zeP rfl rfl ?_
      refine zeKn (c := 55) rfl rfl rfl ?_
      refine zeKn (c := 2) rfl rfl rfl ?_
      refine zeP rfl rfl ?_
      refine zeP rfl rfl ?_
      refine zeKn (c := 22) rfl rfl rfl ?_
      refine zeCF rfl rfl rfl rfl rfl rfl (c_of (m := TP m ((q_letters m p).1) ((q_letters m p).2)) (W := W) (t := t) (k := 22) (by first | assumption | omega)) (by omega) ?_
      dsimp only [Option.toList, List.cons_append, List.nil_append]
      rw [(show q_of W t 22 = Int32.ofNat L from hL)]
      refine zeMul rfl ?_
      refine zeAdd rfl ?_
      refine zeCF rfl rfl rfl rfl rfl rfl (c_at (m := TP m ((q_letters m p).1) ((q_letters m p).2)) (W := W) (t := t) (k := (55 + (2 * L))) ) (by omega) ?_
      dsimp only [Option.toList, List.cons_append, List.nil_append]
      refine zeP rfl rfl ?_
      refine zeP rfl rfl ?_
      refine zeGR rfl rfl zS137 rfl rfl ?_
      refine zeP rfl rfl ?_
      refine zeKn (c := ((q_kindHere m ((q_letters m p).1) ((q_letters m p).2))).toNatClampNeg) rfl rfl hkd.1 ?_
      refine zeWS (k := (376 + 103 * t + ((55 + (2 * L))))) rfl (by have := tne_t h2; omega) ?_
      refine zeP rfl rfl ?_
      refine zeGR rfl rfl zS137 rfl rfl ?_
      refine zeP rfl rfl ?_
      refine zeKn (c := 1) rfl rfl rfl ?_
      refine zeAdd rfl ?_
      refine zeKn (c := 0) rfl rfl rfl ?_
      refine zeWS (k := ((376 + 103 * t + ((55 + (2 * L)))) + 1)) rfl (by have := tne_t h2; omega) ?_
      refine zeP rfl rfl ?_
      refine zeGR rfl rfl zS137 rfl rfl ?_
      refine zeP rfl rfl ?_
      refine zeKn (c := 22) rfl rfl rfl ?_
      refine zeCF rfl rfl rfl rfl rfl rfl (c_at (m := TP m ((q_letters m p).1) ((q_letters m p).2)) (W := (upd ((upd W ((376 + 103 * t + ((55 + (2 * L))))) ((Int32.ofNat (((q_kindHere m ((q_letters m p).1) ((q_letters m p).2))).toNatClampNeg))))) (((376 + 103 * t + ((55 + (2 * L)))) + 1)) ((Int32.ofNat 0)))) (t := t) (k := 22) ) (by omega) ?_
      dsimp only [Option.toList, List.cons_append, List.nil_append]
      refine zeP rfl rfl ?_
      refine zeWL (k := (376 + 103 * t + 22)) rfl (by omega) ?_
      rw [(show (upd ((upd W ((376 + 103 * t + ((55 + (2 * L))))) ((Int32.ofNat (((q_kindHere m ((q_letters m p).1) ((q_letters m p).2))).toNatClampNeg))))) (((376 + 103 * t + ((55 + (2 * L)))) + 1)) ((Int32.ofNat 0))) ((376 + 103 * t + 22)) = Int32.ofNat L by rw [upd_ne _ _ (by omega), upd_ne _ _ (by omega)]; exact hL)]
      refine zeKn (c := 1) rfl rfl rfl ?_
      refine zeAdd rfl ?_
      refine zeWS (k := (376 + 103 * t + 22)) rfl (by omega) ?_
      refine zeKn (c := ((q_kindHere m ((q_letters m p).1) ((q_letters m p).2))).toNatClampNeg) rfl rfl hkd.1 ?_
      cases h3 : Nat.beq ((((q_kindHere m ((q_letters m p).1) ((q_letters m p).2))).toNatClampNeg)) 0 with
      | true =>
        refine zeSw (K := 0) rfl (by rw [Nat.eq_of_beq_eq_true h3]) rfl ?_
        refine zeP rfl rfl ?_
        refine zeP rfl rfl ?_
        refine zeKn (c := 1) rfl rfl rfl ?_
        refine zeAdd rfl ?_
        refine zeKn (c := 0) rfl rfl rfl ?_
        refine zeKn (c := 3) rfl rfl rfl ?_
        refine zeCF rfl rfl rfl rfl rfl rfl (c_readTo (k := ((376 + 103 * t + ((55 + (2 * L)))) + 1)) (lo := (Int32.ofNat 0)) (hi := (Int32.ofNat 3)) (m := m) (W := (upd ((upd ((upd W ((376 + 103 * t + ((55 + (2 * L))))) ((Int32.ofNat (((q_kindHere m ((q_letters m p).1) ((q_letters m p).2))).toNatClampNeg))))) (((376 + 103 * t + ((55 + (2 * L)))) + 1)) ((Int32.ofNat 0)))) ((376 + 103 * t + 22)) ((Int32.ofNat (L + 1))))) (p := (q_letters m p).1) (b := (q_letters m p).2) hG (letters_le hG hp).1 (by have := tne_t h2; omega)) (by omega) ?_
        dsimp only [Option.toList, List.cons_append, List.nil_append]
        exact zeRe rfl rfl rfl (zretB rfl rfl (readTo_le hG (letters_le hG hp).1).2.2) (by simp only [q_readDeed, h1, h2, h3, cond_true, cond_false] <;> rfl) (by simp only [q_readDeed, h1, h2, h3, cond_true, cond_false] <;> rfl)
      | false =>
        cases h4 : Nat.beq ((((q_kindHere m ((q_letters m p).1) ((q_letters m p).2))).toNatClampNeg)) 1 with
        | true =>
          refine zeSw (K := 1) rfl (by rw [Nat.eq_of_beq_eq_true h4]) rfl ?_
          refine zeP rfl rfl ?_
          refine zeP rfl rfl ?_
          refine zeKn (c := 1) rfl rfl rfl ?_
          refine zeAdd rfl ?_
          refine zeKn (c := 0) rfl rfl rfl ?_
          refine zeKn (c := 3) rfl rfl rfl ?_
          refine zeCF rfl rfl rfl rfl rfl rfl (c_readTo (k := ((376 + 103 * t + ((55 + (2 * L)))) + 1)) (lo := (Int32.ofNat 0)) (hi := (Int32.ofNat 3)) (m := m) (W := (upd ((upd ((upd W ((376 + 103 * t + ((55 + (2 * L))))) ((Int32.ofNat (((q_kindHere m ((q_letters m p).1) ((q_letters m p).2))).toNatClampNeg))))) (((376 + 103 * t + ((55 + (2 * L)))) + 1)) ((Int32.ofNat 0)))) ((376 + 103 * t + 22)) ((Int32.ofNat (L + 1))))) (p := (q_letters m p).1) (b := (q_letters m p).2) hG (letters_le hG hp).1 (by have := tne_t h2; omega)) (by omega) ?_
          dsimp only [Option.toList, List.cons_append, List.nil_append]
          exact zeRe rfl rfl rfl (zretB rfl rfl (readTo_le hG (letters_le hG hp).1).2.2) (by simp only [q_readDeed, h1, h2, h3, h4, cond_true, cond_false] <;> rfl) (by simp only [q_readDeed, h1, h2, h3, h4, cond_true, cond_false] <;> rfl)
        | false =>
          cases h5 : Nat.beq ((((q_kindHere m ((q_letters m p).1) ((q_letters m p).2))).toNatClampNeg)) 2 with
          | true =>
            refine zeSw (K := 2) rfl (by rw [Nat.eq_of_beq_eq_true h5]) rfl ?_
            refine zeP rfl rfl ?_
            refine zeP rfl rfl ?_
            refine zeKn (c := 1) rfl rfl rfl ?_
            refine zeAdd rfl ?_
            refine zeKn (c := 0) rfl rfl rfl ?_
            refine zeKn (c := 31) rfl rfl rfl ?_
            refine zeCF rfl rfl rfl rfl rfl rfl (c_readTo (k := ((376 + 103 * t + ((55 + (2 * L)))) + 1)) (lo := (Int32.ofNat 0)) (hi := (Int32.ofNat 31)) (m := m) (W := (upd ((upd ((upd W ((376 + 103 * t + ((55 + (2 * L))))) ((Int32.ofNat (((q_kindHere m ((q_letters m p).1) ((q_letters m p).2))).toNatClampNeg))))) (((376 + 103 * t + ((55 + (2 * L)))) + 1)) ((Int32.ofNat 0)))) ((376 + 103 * t + 22)) ((Int32.ofNat (L + 1))))) (p := (q_letters m p).1) (b := (q_letters m p).2) hG (letters_le hG hp).1 (by have := tne_t h2; omega)) (by omega) ?_
            dsimp only [Option.toList, List.cons_append, List.nil_append]
            exact zeRe rfl rfl rfl (zretB rfl rfl (readTo_le hG (letters_le hG hp).1).2.2) (by simp only [q_readDeed, h1, h2, h3, h4, h5, cond_true, cond_false] <;> rfl) (by simp only [q_readDeed, h1, h2, h3, h4, h5, cond_true, cond_false] <;> rfl)
          | false =>
            cases h6 : Nat.beq ((((q_kindHere m ((q_letters m p).1) ((q_letters m p).2))).toNatClampNeg)) 3 with
            | true =>
              refine zeSw (K := 3) rfl (by rw [Nat.eq_of_beq_eq_true h6]) rfl ?_
              refine zeP rfl rfl ?_
              refine zeP rfl rfl ?_
              refine zeKn (c := 1) rfl rfl rfl ?_
              refine zeAdd rfl ?_
              refine zeKn (c := 0) rfl rfl rfl ?_
              refine zeKn (c := 31) rfl rfl rfl ?_
              refine zeCF rfl rfl rfl rfl rfl rfl (c_readTo (k := ((376 + 103 * t + ((55 + (2 * L)))) + 1)) (lo := (Int32.ofNat 0)) (hi := (Int32.ofNat 31)) (m := m) (W := (upd ((upd ((upd W ((376 + 103 * t + ((55 + (2 * L))))) ((Int32.ofNat (((q_kindHere m ((q_letters m p).1) ((q_letters m p).2))).toNatClampNeg))))) (((376 + 103 * t + ((55 + (2 * L)))) + 1)) ((Int32.ofNat 0)))) ((376 + 103 * t + 22)) ((Int32.ofNat (L + 1))))) (p := (q_letters m p).1) (b := (q_letters m p).2) hG (letters_le hG hp).1 (by have := tne_t h2; omega)) (by omega) ?_
              dsimp only [Option.toList, List.cons_append, List.nil_append]
              exact zeRe rfl rfl rfl (zretB rfl rfl (readTo_le hG (letters_le hG hp).1).2.2) (by simp only [q_readDeed, h1, h2, h3, h4, h5, h6, cond_true, cond_false] <;> rfl) (by simp only [q_readDeed, h1, h2, h3, h4, h5, h6, cond_true, cond_false] <;> rfl)
            | false =>
              cases h7 : Nat.beq ((((q_kindHere m ((q_letters m p).1) ((q_letters m p).2))).toNatClampNeg)) 4 with
              | true =>
                refine zeSw (K := 4) rfl (by rw [Nat.eq_of_beq_eq_true h7]) rfl ?_
                refine zeP rfl rfl ?_
                refine zeP rfl rfl ?_
                refine zeKn (c := 1) rfl rfl rfl ?_
                refine zeAdd rfl ?_
                refine zeKn (c := 0) rfl rfl rfl ?_
                refine zeKn (c := 999) rfl rfl rfl ?_
                refine zeCF rfl rfl rfl rfl rfl rfl (c_readTo (k := ((376 + 103 * t + ((55 + (2 * L)))) + 1)) (lo := (Int32.ofNat 0)) (hi := (Int32.ofNat 999)) (m := m) (W := (upd ((upd ((upd W ((376 + 103 * t + ((55 + (2 * L))))) ((Int32.ofNat (((q_kindHere m ((q_letters m p).1) ((q_letters m p).2))).toNatClampNeg))))) (((376 + 103 * t + ((55 + (2 * L)))) + 1)) ((Int32.ofNat 0)))) ((376 + 103 * t + 22)) ((Int32.ofNat (L + 1))))) (p := (q_letters m p).1) (b := (q_letters m p).2) hG (letters_le hG hp).1 (by have := tne_t h2; omega)) (by omega) ?_
                dsimp only [Option.toList, List.cons_append, List.nil_append]
                exact zeRe rfl rfl rfl (zretB rfl rfl (readTo_le hG (letters_le hG hp).1).2.2) (by simp only [q_readDeed, h1, h2, h3, h4, h5, h6, h7, cond_true, cond_false] <;> rfl) (by simp only [q_readDeed, h1, h2, h3, h4, h5, h6, h7, cond_true, cond_false] <;> rfl)
              | false =>
                cases h8 : Nat.beq ((((q_kindHere m ((q_letters m p).1) ((q_letters m p).2))).toNatClampNeg)) 5 with
                | true =>
                  refine zeSw (K := 5) rfl (by rw [Nat.eq_of_beq_eq_true h8]) rfl ?_
                  refine zeP rfl rfl ?_
                  refine zeP rfl rfl ?_
                  refine zeKn (c := 1) rfl rfl rfl ?_
                  refine zeAdd rfl ?_
                  refine zeKn (c := 0) rfl rfl rfl ?_
                  refine zeKn (c := 999) rfl rfl rfl ?_
                  refine zeCF rfl rfl rfl rfl rfl rfl (c_readTo (k := ((376 + 103 * t + ((55 + (2 * L)))) + 1)) (lo := (Int32.ofNat 0)) (hi := (Int32.ofNat 999)) (m := m) (W := (upd ((upd ((upd W ((376 + 103 * t + ((55 + (2 * L))))) ((Int32.ofNat (((q_kindHere m ((q_letters m p).1) ((q_letters m p).2))).toNatClampNeg))))) (((376 + 103 * t + ((55 + (2 * L)))) + 1)) ((Int32.ofNat 0)))) ((376 + 103 * t + 22)) ((Int32.ofNat (L + 1))))) (p := (q_letters m p).1) (b := (q_letters m p).2) hG (letters_le hG hp).1 (by have := tne_t h2; omega)) (by omega) ?_
                  dsimp only [Option.toList, List.cons_append, List.nil_append]
                  exact zeRe rfl rfl rfl (zretB rfl rfl (readTo_le hG (letters_le hG hp).1).2.2) (by simp only [q_readDeed, h1, h2, h3, h4, h5, h6, h7, h8, cond_true, cond_false] <;> rfl) (by simp only [q_readDeed, h1, h2, h3, h4, h5, h6, h7, h8, cond_true, cond_false] <;> rfl)
                | false =>
                  cases h9 : Nat.beq ((((q_kindHere m ((q_letters m p).1) ((q_letters m p).2))).toNatClampNeg)) 6 with
                  | true =>
                    refine zeSw (K := 6) rfl (by rw [Nat.eq_of_beq_eq_true h9]) rfl ?_
                    refine zeP rfl rfl ?_
                    refine zeP rfl rfl ?_
                    refine zeKn (c := 1) rfl rfl rfl ?_
                    refine zeAdd rfl ?_
                    refine zeKn (c := 1) rfl rfl rfl ?_
                    refine zeKn (c := 9) rfl rfl rfl ?_
                    refine zeCF rfl rfl rfl rfl rfl rfl (c_readTo (k := ((376 + 103 * t + ((55 + (2 * L)))) + 1)) (lo := (Int32.ofNat 1)) (hi := (Int32.ofNat 9)) (m := m) (W := (upd ((upd ((upd W ((376 + 103 * t + ((55 + (2 * L))))) ((Int32.ofNat (((q_kindHere m ((q_letters m p).1) ((q_letters m p).2))).toNatClampNeg))))) (((376 + 103 * t + ((55 + (2 * L)))) + 1)) ((Int32.ofNat 0)))) ((376 + 103 * t + 22)) ((Int32.ofNat (L + 1))))) (p := (q_letters m p).1) (b := (q_letters m p).2) hG (letters_le hG hp).1 (by have := tne_t h2; omega)) (by omega) ?_
                    dsimp only [Option.toList, List.cons_append, List.nil_append]
                    exact zeRe rfl rfl rfl (zretB rfl rfl (readTo_le hG (letters_le hG hp).1).2.2) (by simp only [q_readDeed, h1, h2, h3, h4, h5, h6, h7, h8, h9, cond_true, cond_false] <;> rfl) (by simp only [q_readDeed, h1, h2, h3, h4, h5, h6, h7, h8, h9, cond_true, cond_false] <;> rfl)
                  | false =>
                    have hB : (((q_kindHere m ((q_letters m p).1) ((q_letters m p).2))).toNatClampNeg) = 7 := by
                      have e0 := Nat.ne_of_beq_eq_false h3
                      have e1 := Nat.ne_of_beq_eq_false h4
                      have e2 := Nat.ne_of_beq_eq_false h5
                      have e3 := Nat.ne_of_beq_eq_false h6
                      have e4 := Nat.ne_of_beq_eq_false h7
                      have e5 := Nat.ne_of_beq_eq_false h8
                      have e6 := Nat.ne_of_beq_eq_false h9
                      have eB := hkd.2
                      omega
                    refine zeSw (K := 7) rfl (by rw [hB]) rfl ?_
                    refine zeKn (c := 1) rfl rfl rfl ?_
                    exact zeRe rfl rfl rfl rfl (by simp only [q_readDeed, h1, h2, h3, h4, h5, h6, h7, h8, h9, cond_true, cond_false] <;> rfl) (by simp only [q_readDeed, h1, h2, h3, h4, h5, h6, h7, h8, h9, cond_true, cond_false] <;> rfl)
    · refine zeKn (c := 0) rfl rfl rfl ?_
      exact zeRe rfl rfl rfl rfl (by simp only [q_readDeed, h1, h2, cond_true, cond_false] <;> rfl) (by simp only [q_readDeed, h1, h2, cond_true, cond_false] <;> rfl)
theorem c_readDeed {σ : Nat → Nat × (Nat → Int32)} {yy : (Nat → Nat → Int64) × Bool × Nat × Nat} {m : Nat → Nat → Int32} {W : Nat → Int32} {p b : Nat} {t : Nat} {L : Nat} (hG : PG m) (hp : p ≤ pe m) (ht : t < 4) (hL : W (376 + 103 * t + 22) = Int32.ofNat L) (hL2 : L ≤ 24) : zF σ 5 1852 [.ref 137, .int (Int32.ofNat t)] (zS1, zrow (TP m p b) 138 W, yy) (.inl (some (.int (q_readDeed m W p t L).1))) (zS1, zrow (TP m ((q_readDeed m W p t L).2.2.1) ((q_readDeed m W p t L).2.2.2)) 138 ((q_readDeed m W p t L).2.1), yy) := by
  intro d hd
  obtain ⟨d, rfl⟩ : ∃ k, d = k + 1 := ⟨d - 1, by omega⟩
  exact p_readDeed hd hG hp ht hL hL2
theorem readDeed_le {m : Nat → Nat → Int32} {W : Nat → Int32} {p t L : Nat} (hG : PG m) (hp : p ≤ pe m) : RB m (q_readDeed m W p t L) := by
  have h1 := letters_le hG hp
  have h0 : RB m (Int32.ofNat 0, W, (q_letters m p).1, (q_letters m p).2) := ⟨h1.1, h1.2, Or.inl rfl⟩
  have h01 : ∀ V, RB m (Int32.ofNat 1, V, (q_letters m p).1, (q_letters m p).2) := fun V => ⟨h1.1, h1.2, Or.inr rfl⟩
  have h2 : ∀ (W : Nat → Int32) (k : Nat) (lo hi : Int32), RB m ((q_readTo m W (q_letters m p).1 k lo hi).1, (q_readTo m W (q_letters m p).1 k lo hi).2.1, (q_readTo m W (q_letters m p).1 k lo hi).2.2.1, (q_readTo m W (q_letters m p).1 k lo hi).2.2.2) := fun W k lo hi => readTo_le hG h1.1
  unfold q_readDeed
  refine RB.bif h0 (RB.bif ?_ h0)
  generalize ((q_kindHere m ((q_letters m p).1) ((q_letters m p).2)).toNatClampNeg) = K
  refine RB.bif (h2 _ _ _ _) (RB.bif (h2 _ _ _ _) (RB.bif (h2 _ _ _ _) (RB.bif (h2 _ _ _ _) (RB.bif (h2 _ _ _ _) (RB.bif (h2 _ _ _ _) (RB.bif (h2 _ _ _ _) (h01 _)))))))
theorem readDeed_full {m : Nat → Nat → Int32} {W : Nat → Int32} {p t L : Nat} (h : L = 24) : zc1 .ne (q_readDeed m W p t L).1 = false := by
  subst h
  unfold q_readDeed
  cases zc2 .eq (q_kindHere m (q_letters m p).1 (q_letters m p).2) (-1) with
  | true => rfl
  | false => rfl
/-- where a deed's reading leaves the world alone; the number of deeds behind it -/
theorem readDeed_W {m : Nat → Nat → Int32} {W : Nat → Int32} {p t L : Nat} (hL2 : L ≤ 24) {c : Nat} (hc : c < 376 + 103 * t + 22 ∨ 376 + 103 * t + 103 ≤ c) : (q_readDeed m W p t L).2.1 c = W c := by
  have key : ∀ X : Int32 × (Nat → Int32) × Nat × Nat, X = q_readDeed m W p t L → X.2.1 c = W c := by
    intro X hX
    rw [hX]
    unfold q_readDeed
    refine cnd4 (fun X : Int32 × (Nat → Int32) × Nat × Nat => X.2.1 c = W c) (fun _ => rfl) (fun _ => cnd4 (fun X : Int32 × (Nat → Int32) × Nat × Nat => X.2.1 c = W c) (fun h24 => ?_) (fun _ => rfl))
    have := tne_t h24
    generalize ((q_kindHere m ((q_letters m p).1) ((q_letters m p).2)).toNatClampNeg) = K
    have hw : upd (upd (upd W (376 + 103 * t + (55 + 2 * L)) (Int32.ofNat K)) (376 + 103 * t + (55 + 2 * L) + 1) (Int32.ofNat 0)) (376 + 103 * t + 22) (Int32.ofNat (L + 1)) c = W c := by
      rw [upd_ne _ _ (by omega), upd_ne _ _ (by omega), upd_ne _ _ (by omega)]
    revert hw
    generalize upd (upd (upd W (376 + 103 * t + (55 + 2 * L)) (Int32.ofNat K)) (376 + 103 * t + (55 + 2 * L) + 1) (Int32.ofNat 0)) (376 + 103 * t + 22) (Int32.ofNat (L + 1)) = V
    intro hw
    have h2 : ∀ (lo hi : Int32), (q_readTo m V (q_letters m p).1 (376 + 103 * t + (55 + 2 * L) + 1) lo hi).2.1 c = W c := fun lo hi => (readTo_ne (by omega)).trans hw
    refine cnd4 (fun X : Int32 × (Nat → Int32) × Nat × Nat => X.2.1 c = W c) (fun _ => h2 _ _) (fun _ => cnd4 (fun X : Int32 × (Nat → Int32) × Nat × Nat => X.2.1 c = W c) (fun _ => h2 _ _) (fun _ => cnd4 (fun X : Int32 × (Nat → Int32) × Nat × Nat => X.2.1 c = W c) (fun _ => h2 _ _) (fun _ => cnd4 (fun X : Int32 × (Nat → Int32) × Nat × Nat => X.2.1 c = W c) (fun _ => h2 _ _) (fun _ => cnd4 (fun X : Int32 × (Nat → Int32) × Nat × Nat => X.2.1 c = W c) (fun _ => h2 _ _) (fun _ => cnd4 (fun X : Int32 × (Nat → Int32) × Nat × Nat => X.2.1 c = W c) (fun _ => h2 _ _) (fun _ => cnd4 (fun X : Int32 × (Nat → Int32) × Nat × Nat => X.2.1 c = W c) (fun _ => h2 _ _) (fun _ => hw)))))))
  exact key _ rfl
theorem readTo_ok {m : Nat → Nat → Int32} {W : Nat → Int32} {p k a c : Nat} (ha : a ≤ 9999) (hc : c ≤ 9999) (h : ¬ (q_readTo m W p k (Int32.ofNat a) (Int32.ofNat c)).1 = 0) : ∃ n, a ≤ n ∧ n ≤ c ∧ (q_readTo m W p k (Int32.ofNat a) (Int32.ofNat c)).2.1 = upd W k (Int32.ofNat n) := by
  unfold q_readTo at h ⊢
  cases h1 : zc2 .eq (q_number m p (Int32.ofNat a) (Int32.ofNat c)).1 (-1) with
  | true =>
    rw [h1] at h
    exact absurd rfl h
  | false =>
    have := number_k (by omega) (by omega) (zeq_f h1)
    refine ⟨_, this.2.2, this.2.1, ?_⟩
    show upd W k (q_number m p (Int32.ofNat a) (Int32.ofNat c)).1 = _
    rw [← this.1]
theorem ne1 {x : Int32} (h : zc1 .ne x = true) : ¬ x = 0 := of_decide_eq_true h
/-- a deed that is read -/
noncomputable def RS (W : Nat → Int32) (t L : Nat) (X : Int32 × (Nat → Int32) × Nat × Nat) : Prop := ¬ X.1 = 0 → ∃ K n, K ≤ 7 ∧ n ≤ 999 ∧ (K ≤ 1 → n ≤ 3) ∧ (K ≤ 3 → n ≤ 31) ∧ L ≠ 24 ∧ X.2.1 = upd (upd (upd (upd W (376 + 103 * t + (55 + 2 * L)) (Int32.ofNat K)) (376 + 103 * t + (55 + 2 * L) + 1) (Int32.ofNat 0)) (376 + 103 * t + 22) (Int32.ofNat (L + 1))) (376 + 103 * t + (55 + 2 * L) + 1) (Int32.ofNat n)
theorem RS.no {W V : Nat → Int32} {t L p b : Nat} : RS W t L (Int32.ofNat 0, V, p, b) := fun h => absurd rfl h
theorem readDeed_s {m : Nat → Nat → Int32} {W : Nat → Int32} {p t L : Nat} : RS W t L (q_readDeed m W p t L) := by
  unfold q_readDeed
  refine cnd4 (RS W t L) (fun _ => RS.no) (fun hk => cnd4 (RS W t L) (fun h24 => ?_) (fun _ => RS.no))
  have hL := tne_t h24
  have hK := (kindHere_k hk).2
  revert hK
  generalize ((q_kindHere m ((q_letters m p).1) ((q_letters m p).2)).toNatClampNeg) = K
  intro hK
  have fin : ∀ {a c : Nat}, a ≤ 9999 → c ≤ 999 → (K ≤ 1 → c ≤ 3) → (K ≤ 3 → c ≤ 31) → RS W t L ((q_readTo m (upd (upd (upd W (376 + 103 * t + (55 + 2 * L)) (Int32.ofNat K)) (376 + 103 * t + (55 + 2 * L) + 1) (Int32.ofNat 0)) (376 + 103 * t + 22) (Int32.ofNat (L + 1))) (q_letters m p).1 (376 + 103 * t + (55 + 2 * L) + 1) (Int32.ofNat a) (Int32.ofNat c)).1, (q_readTo m (upd (upd (upd W (376 + 103 * t + (55 + 2 * L)) (Int32.ofNat K)) (376 + 103 * t + (55 + 2 * L) + 1) (Int32.ofNat 0)) (376 + 103 * t + 22) (Int32.ofNat (L + 1))) (q_letters m p).1 (376 + 103 * t + (55 + 2 * L) + 1) (Int32.ofNat a) (Int32.ofNat c)).2.1, (q_readTo m (upd (upd (upd W (376 + 103 * t + (55 + 2 * L)) (Int32.ofNat K)) (376 + 103 * t + (55 + 2 * L) + 1) (Int32.ofNat 0)) (376 + 103 * t + 22) (Int32.ofNat (L + 1))) (q_letters m p).1 (376 + 103 * t + (55 + 2 * L) + 1) (Int32.ofNat a) (Int32.ofNat c)).2.2.1, (q_readTo m (upd (upd (upd W (376 + 103 * t + (55 + 2 * L)) (Int32.ofNat K)) (376 + 103 * t + (55 + 2 * L) + 1) (Int32.ofNat 0)) (376 + 103 * t + 22) (Int32.ofNat (L + 1))) (q_letters m p).1 (376 + 103 * t + (55 + 2 * L) + 1) (Int32.ofNat a) (Int32.ofNat c)).2.2.2) := by
    intro a c ha hc h2 h3 h
    obtain ⟨n, g1, g2, g3⟩ := readTo_ok ha (by omega) h
    exact ⟨K, n, hK, by omega, fun q => by have := h2 q; omega, fun q => by have := h3 q; omega, hL, g3⟩
  refine cnd4 (RS W t L) (fun k => fin (by omega) (by omega) (by have := Nat.eq_of_beq_eq_true k; omega) (by have := Nat.eq_of_beq_eq_true k; omega)) (fun k0 => ?_)
  refine cnd4 (RS W t L) (fun k => fin (by omega) (by omega) (by have := Nat.eq_of_beq_eq_true k; omega) (by have := Nat.eq_of_beq_eq_true k; omega)) (fun k1 => ?_)
  refine cnd4 (RS W t L) (fun k => fin (by omega) (by omega) (by have := Nat.eq_of_beq_eq_true k; omega) (by have := Nat.eq_of_beq_eq_true k; omega)) (fun k2 => ?_)
  refine cnd4 (RS W t L) (fun k => fin (by omega) (by omega) (by have := Nat.eq_of_beq_eq_true k; omega) (by have := Nat.eq_of_beq_eq_true k; omega)) (fun k3 => ?_)
  have n0 := Nat.ne_of_beq_eq_false k0
  have n1 := Nat.ne_of_beq_eq_false k1
  have n2 := Nat.ne_of_beq_eq_false k2
  have n3 := Nat.ne_of_beq_eq_false k3
  refine cnd4 (RS W t L) (fun k => fin (by omega) (by omega) (by omega) (by omega)) (fun k4 => ?_)
  refine cnd4 (RS W t L) (fun k => fin (by omega) (by omega) (by omega) (by omega)) (fun k5 => ?_)
  refine cnd4 (RS W t L) (fun k => fin (by omega) (by omega) (by omega) (by omega)) (fun k6 => ?_)
  intro _
  refine ⟨K, 0, hK, by omega, by omega, by omega, hL, ?_⟩
  funext c
  by_cases c1 : c = 376 + 103 * t + (55 + 2 * L) + 1
  · subst c1
    rw [upd_at]
    show upd (upd (upd W _ _) _ _) (376 + 103 * t + 22) _ _ = _
    rw [upd_ne _ _ (by omega), upd_at]
  · rw [upd_ne _ _ c1]
theorem readDeed_L {m : Nat → Nat → Int32} {W : Nat → Int32} {p t L : Nat} (hL2 : L ≤ 24) (h : zc1 .ne (q_readDeed m W p t L).1 = true) : (q_readDeed m W p t L).2.1 (376 + 103 * t + 22) = Int32.ofNat (L + 1) ∧ L < 24 := by
  obtain ⟨K, n, -, -, -, -, g5, g6⟩ := readDeed_s (ne1 h)
  rw [g6, upd_ne _ _ (by omega), upd_at]
  exact ⟨rfl, by omega⟩
noncomputable def l_deeds (m : Nat → Nat → Int32) (t : Nat) : Nat → Nat → (Nat → Int32) → Nat → Nat → Int32 × (Nat → Int32) × Nat × Nat
  | 0, L, W, p, b => ((Int32.ofNat 0), (q_readDeed m W p t L).2.1, (q_readDeed m W p t L).2.2.1, (q_readDeed m W p t L).2.2.2)
  | n + 1, L, W, p, b => (bif zc1 .ne (q_readDeed m W p t L).1 then (bif zc1 .ne (q_passesSign m ((q_readDeed m W p t L).2.2.1) 44).1 then (l_deeds m t n ((L + 1)) ((q_readDeed m W p t L).2.1) ((q_passesSign m ((q_readDeed m W p t L).2.2.1) 44).2.1) ((q_passesSign m ((q_readDeed m W p t L).2.2.1) 44).2.2)) else ((Int32.ofNat 1), (q_readDeed m W p t L).2.1, (q_passesSign m ((q_readDeed m W p t L).2.2.1) 44).2.1, (q_passesSign m ((q_readDeed m W p t L).2.2.1) 44).2.2)) else ((Int32.ofNat 0), (q_readDeed m W p t L).2.1, (q_readDeed m W p t L).2.2.1, (q_readDeed m W p t L).2.2.2))
theorem w_deeds {σ : Nat → Nat × (Nat → Int32)} {yy : (Nat → Nat → Int64) × Bool × Nat × Nat} {m : Nat → Nat → Int32} {t : Nat} {d : Nat} (hd : 6 ≤ d + 1) (hG : PG m) (ht : t < 4) : ∀ (n : Nat) (x : Option Value) (L : Nat) (W : (Nat → Int32)) (p : Nat) (b : Nat), L + n = 24 → p ≤ pe m → W (376 + 103 * t + 22) = Int32.ofNat L → zEv σ (d + 1) 1853 48 [some (.ref 137), some (.int (Int32.ofNat t)), x] [] (zS1, zrow (TP m p b) 138 W, yy) (.inl (some (.int (l_deeds m t n L W p b).1))) (zS1, zrow (TP m ((l_deeds m t n L W p b).2.2.1) ((l_deeds m t n L W p b).2.2.2)) 138 ((l_deeds m t n L W p b).2.1), yy) := by
  intro n
  induction n with
  | zero =>
    intro x L W p b hk hp hL
    refine zeP rfl rfl ?_
    refine zeP rfl rfl ?_
    refine zeCF rfl rfl rfl rfl rfl rfl (c_readDeed (t := t) (L := L) (m := m) (W := W) (p := p) (b := b) hG hp ht hL (by omega)) (by omega) ?_
    dsimp only [Option.toList, List.cons_append, List.nil_append]
    refine zeF1 rfl rfl (readDeed_full (by omega)) ?_
    refine zeKn (c := 0) rfl rfl rfl ?_
    exact zeRe rfl rfl rfl rfl (by rfl) (by rfl)
  | succ n ih =>
    intro x L W p b hk hp hL
    refine zeP rfl rfl ?_
    refine zeP rfl rfl ?_
    refine zeCF rfl rfl rfl rfl rfl rfl (c_readDeed (t := t) (L := L) (m := m) (W := W) (p := p) (b := b) hG hp ht hL (by omega)) (by omega) ?_
    dsimp only [Option.toList, List.cons_append, List.nil_append]
    refine zeB1 rfl rfl (fun h1 => ?_) (fun h1 => ?_)
    · refine zeP rfl rfl ?_
      refine zeKn (c := 44) rfl rfl rfl ?_
      refine zeCF rfl rfl rfl rfl rfl rfl (c_passesSign (c := 44) (m := m) (W := (q_readDeed m W p t L).2.1) (p := (q_readDeed m W p t L).2.2.1) (b := (q_readDeed m W p t L).2.2.2) hG (readDeed_le hG hp).1) (by omega) ?_
      dsimp only [Option.toList, List.cons_append, List.nil_append]
      refine zeB1 rfl rfl (fun h2 => ?_) (fun h2 => ?_)
      · simp only [l_deeds, h1, h2, cond_true, cond_false]
        exact ih (x) ((L + 1)) ((q_readDeed m W p t L).2.1) ((q_passesSign m ((q_readDeed m W p t L).2.2.1) 44).2.1) ((q_passesSign m ((q_readDeed m W p t L).2.2.1) 44).2.2) (by omega) (passes_le hG (readDeed_le hG hp).1).1 (readDeed_L (by omega) h1).1
      · refine zeKn (c := 1) rfl rfl rfl ?_
        exact zeRe rfl rfl rfl rfl (by simp only [l_deeds, h1, h2, cond_true, cond_false] <;> rfl) (by simp only [l_deeds, h1, h2, cond_true, cond_false] <;> rfl)
    · refine zeKn (c := 0) rfl rfl rfl ?_
      exact zeRe rfl rfl rfl rfl (by simp only [l_deeds, h1, cond_true, cond_false] <;> rfl) (by simp only [l_deeds, h1, cond_true, cond_false] <;> rfl)
theorem clr_step {W : Nat → Int32} {t k : Nat} (hz : ∀ c, c < k → W (376 + 103 * t + c) = Int32.ofNat 0) : ∀ c, c < k + 1 → upd W (376 + 103 * t + k) (Int32.ofNat 0) (376 + 103 * t + c) = Int32.ofNat 0 := by
  intro c hc
  by_cases h : c = k
  · subst h; exact upd_at _ _ _
  · rw [upd_ne _ _ (by omega)]; exact hz c (by omega)
noncomputable def q_thread37 (m : Nat → Nat → Int32) (W : Nat → Int32) (p : Nat) (b : Nat) (t : Nat) : Int32 × (Nat → Int32) × Nat × Nat := (l_deeds m t 24 0 ((upd W 9 ((Int32.ofNat (t + 1))))) p b)
theorem p_thread37 {σ : Nat → Nat × (Nat → Int32)} {yy : (Nat → Nat → Int64) × Bool × Nat × Nat} {m : Nat → Nat → Int32} {W : Nat → Int32} {p b : Nat} {t : Nat} {x : Option Value} {d : Nat} (hd : 6 ≤ d + 1) (hG : PG m) (hp : p ≤ pe m) (ht : t < 4) (h9 : W 9 = Int32.ofNat t) (hz : W (376 + 103 * t + 22) = Int32.ofNat 0) : zEv σ (d + 1) 1853 37 [some (.ref 137), some (.int (Int32.ofNat t)), x] [] (zS1, zrow (TP m p b) 138 W, yy) (.inl (some (.int (q_thread37 m W p b t).1))) (zS1, zrow (TP m ((q_thread37 m W p b t).2.2.1) ((q_thread37 m W p b t).2.2.2)) 138 ((q_thread37 m W p b t).2.1), yy) := by
  refine zeP rfl rfl ?_
  refine zeGR rfl rfl zS137 rfl rfl ?_
  refine zeKn (c := 9) rfl rfl rfl ?_
  refine zeP rfl rfl ?_
  refine zeWL (k := 9) rfl (by omega) ?_
  rw [h9]
  refine zeKn (c := 1) rfl rfl rfl ?_
  refine zeAdd rfl ?_
  refine zeWS (k := 9) rfl (by omega) ?_
  simp only [q_thread37, cond_true, cond_false]
  exact w_deeds (t := t) (m := m) (by omega) hG ht 24 (x) (0) ((upd W 9 ((Int32.ofNat (t + 1))))) p b (by omega) hp (by rw [upd_ne _ _ (by omega)]; exact hz)
noncomputable def l_rclears (m : Nat → Nat → Int32) (p : Nat) (b : Nat) (t : Nat) : Nat → Nat → (Nat → Int32) → Int32 × (Nat → Int32) × Nat × Nat
  | 0, k, W => (q_thread37 m W p b t)
  | n + 1, k, W => (l_rclears m p b t n ((k + 1)) ((upd W ((376 + 103 * t + k)) ((Int32.ofNat 0)))))
theorem w_rclears {σ : Nat → Nat × (Nat → Int32)} {yy : (Nat → Nat → Int64) × Bool × Nat × Nat} {m : Nat → Nat → Int32} {p : Nat} {b : Nat} {t : Nat} {d : Nat} (hd : 6 ≤ d + 1) (hG : PG m) (hp : p ≤ pe m) (ht : t < 4) : ∀ (n : Nat) (k : Nat) (W : (Nat → Int32)), k + n = 103 → W 9 = Int32.ofNat t → (∀ c, c < k → W (376 + 103 * t + c) = Int32.ofNat 0) → zEv σ (d + 1) 1853 14 [some (.ref 137), some (.int (Int32.ofNat t)), some (.int (Int32.ofNat k))] [] (zS1, zrow (TP m p b) 138 W, yy) (.inl (some (.int (l_rclears m p b t n k W).1))) (zS1, zrow (TP m ((l_rclears m p b t n k W).2.2.1) ((l_rclears m p b t n k W).2.2.2)) 138 ((l_rclears m p b t n k W).2.1), yy) := by
  intro n
  induction n with
  | zero =>
    intro k W hk h9 hz
    refine zeP rfl rfl ?_
    refine zeKn (c := 103) rfl rfl rfl ?_
    refine zeT2 rfl rfl (zcge (by omega) (by omega) (by omega)) ?_
    simp only [l_rclears, cond_true, cond_false]
    exact p_thread37 (t := t) (x := some (.int (Int32.ofNat k))) (m := m) (W := W) (p := p) (b := b) (by omega) hG hp ht h9 (hz 22 (by omega))
  | succ n ih =>
    intro k W hk h9 hz
    refine zeP rfl rfl ?_
    refine zeKn (c := 103) rfl rfl rfl ?_
    refine zeF2 rfl rfl (zcge_f (by omega) (by omega) (by omega)) ?_
    refine zeP rfl rfl ?_
    refine zeGR rfl rfl zS137 rfl rfl ?_
    refine zeP rfl rfl ?_
    refine zeP rfl rfl ?_
    refine zeCF rfl rfl rfl rfl rfl rfl (c_at (m := TP m p b) (W := W) (t := t) (k := k) ) (by omega) ?_
    dsimp only [Option.toList, List.cons_append, List.nil_append]
    refine zeKn (c := 0) rfl rfl rfl ?_
    refine zeWS (k := (376 + 103 * t + k)) rfl (by omega) ?_
    refine zeInc rfl rfl ?_
    refine zeP rfl rfl ?_
    simp only [l_rclears, cond_true, cond_false]
    exact ih ((k + 1)) ((upd W ((376 + 103 * t + k)) ((Int32.ofNat 0)))) (by omega) (by rw [upd_ne _ _ (by omega)]; exact h9) (clr_step hz)
noncomputable def q_readThread (m : Nat → Nat → Int32) (W : Nat → Int32) (p : Nat) (b : Nat) : Int32 × (Nat → Int32) × Nat × Nat := (bif zc2 .ne (Int32.ofNat (nv W 9)) (Int32.ofNat 4) then (l_rclears m p b ((nv W 9)) 103 0 W) else ((Int32.ofNat 0), W, p, b))
theorem p_readThread {σ : Nat → Nat × (Nat → Int32)} {yy : (Nat → Nat → Int64) × Bool × Nat × Nat} {m : Nat → Nat → Int32} {W : Nat → Int32} {p b : Nat} {d : Nat} (hd : 6 ≤ d + 1) (hG : PG m) (hp : p ≤ pe m) (h9 : W 9 = Int32.ofNat (nv W 9) ∧ nv W 9 ≤ 4) : zEv σ (d + 1) 1853 0 [some (.ref 137), none, none] [] (zS1, zrow (TP m p b) 138 W, yy) (.inl (some (.int (q_readThread m W p b).1))) (zS1, zrow (TP m ((q_readThread m W p b).2.2.1) ((q_readThread m W p b).2.2.2)) 138 ((q_readThread m W p b).2.1), yy) := by
  refine zeP rfl rfl ?_
  refine zeCF rfl rfl rfl rfl rfl rfl (c_threads (m := TP m p b) (W := W)  ) (by omega) ?_
  dsimp only [Option.toList, List.cons_append, List.nil_append]
  rw [(show q_threads W = Int32.ofNat (nv W 9) from h9.1)]
  refine zeP rfl rfl ?_
  refine zeP rfl rfl ?_
  refine zeKn (c := 4) rfl rfl rfl ?_
  refine zeB2 rfl rfl (fun h1 => ?_) (fun h1 => ?_)
  · refine zeKn (c := 0) rfl rfl rfl ?_
    refine zeP rfl rfl ?_
    simp only [q_readThread, h1, cond_true, cond_false]
    exact w_rclears (t := (nv W 9)) (m := m) (p := p) (b := b) (by omega) hG hp (by have := tne_t h1; omega) 103 (0) W (by omega) h9.1 (fun c hc => absurd hc (Nat.not_lt_zero _))
  · refine zeKn (c := 0) rfl rfl rfl ?_
    exact zeRe rfl rfl rfl rfl (by simp only [q_readThread, h1, cond_true, cond_false] <;> rfl) (by simp only [q_readThread, h1, cond_true, cond_false] <;> rfl)
theorem c_readThread {σ : Nat → Nat × (Nat → Int32)} {yy : (Nat → Nat → Int64) × Bool × Nat × Nat} {m : Nat → Nat → Int32} {W : Nat → Int32} {p b : Nat} (hG : PG m) (hp : p ≤ pe m) (h9 : W 9 = Int32.ofNat (nv W 9) ∧ nv W 9 ≤ 4) : zF σ 6 1853 [.ref 137] (zS1, zrow (TP m p b) 138 W, yy) (.inl (some (.int (q_readThread m W p b).1))) (zS1, zrow (TP m ((q_readThread m W p b).2.2.1) ((q_readThread m W p b).2.2.2)) 138 ((q_readThread m W p b).2.1), yy) := by
  intro d hd
  obtain ⟨d, rfl⟩ : ∃ k, d = k + 1 := ⟨d - 1, by omega⟩
  exact p_readThread hd hG hp h9
