def y_line0 (T : (Nat → Int32)) (e : Nat) (m : (Nat → Nat → Int32)) (p : Nat) (b : Nat) : Int32 × (Nat → Nat → Int32) × Nat × Nat := ((y_readTerm T e m p b 0).1, (y_readTerm T e m p b 0).2.1, (y_readTerm T e m p b 0).2.2.1, (y_readTerm T e m p b 0).2.2.2)
theorem yp_line0 {σ : Nat → Nat × (Nat → Int32)} {yy : (Nat → Nat → Int64) × Bool × Nat × Nat} {m : Nat → Nat → Int32} {p b : Nat} {T : Nat → Int32} {e : Nat} {d : Nat} (hd : 4 ≤ d + 1) (hG : XR m T e) (hp : p ≤ e) (hbp : b ≤ p) (hs : ZS σ) : zEv σ (d + 1) 1002 7 [some (.ref 128), some (.int (Int32.ofNat 0))] [] (zS1, XP m p b, yy) (.inl (some (.int (y_line0 T e m p b).1))) (zS1, XP ((y_line0 T e m p b).2.1) ((y_line0 T e m p b).2.2.1) ((y_line0 T e m p b).2.2.2), yy) := by
  refine zeP rfl rfl ?_
  refine zeP rfl rfl ?_
  refine zeP rfl rfl ?_
  refine zeKn (c := 8) rfl rfl rfl ?_
  refine zeF2 rfl rfl (show zc2 .ge (Int32.ofNat 0) (Int32.ofNat 8) = false by decide) ?_
  refine zeP rfl rfl ?_
  refine zeP rfl rfl ?_
  refine zeCV rfl rfl rfl rfl zS128 rfl (yc_readTerm (t := 0) (T := T) (e := e) (m := m) (p := p) (b := b) hG hp (by omega) hs) (by omega) ?_
  dsimp only [Option.toList, List.cons_append, List.nil_append]
  refine zeP rfl rfl ?_
  exact zeRe rfl rfl rfl (zretB rfl rfl (readTerm_YB hG hp hbp).2.2.2) (by rfl) (by rfl)
def y_line1 (T : (Nat → Int32)) (e : Nat) (m : (Nat → Nat → Int32)) (p : Nat) (b : Nat) : Int32 × (Nat → Nat → Int32) × Nat × Nat := ((y_readTerm T e m p b 1).1, (y_readTerm T e m p b 1).2.1, (y_readTerm T e m p b 1).2.2.1, (y_readTerm T e m p b 1).2.2.2)
theorem yp_line1 {σ : Nat → Nat × (Nat → Int32)} {yy : (Nat → Nat → Int64) × Bool × Nat × Nat} {m : Nat → Nat → Int32} {p b : Nat} {T : Nat → Int32} {e : Nat} {d : Nat} (hd : 4 ≤ d + 1) (hG : XR m T e) (hp : p ≤ e) (hbp : b ≤ p) (hs : ZS σ) : zEv σ (d + 1) 1002 7 [some (.ref 128), some (.int (Int32.ofNat 1))] [] (zS1, XP m p b, yy) (.inl (some (.int (y_line1 T e m p b).1))) (zS1, XP ((y_line1 T e m p b).2.1) ((y_line1 T e m p b).2.2.1) ((y_line1 T e m p b).2.2.2), yy) := by
  refine zeP rfl rfl ?_
  refine zeP rfl rfl ?_
  refine zeP rfl rfl ?_
  refine zeKn (c := 8) rfl rfl rfl ?_
  refine zeF2 rfl rfl (show zc2 .ge (Int32.ofNat 1) (Int32.ofNat 8) = false by decide) ?_
  refine zeP rfl rfl ?_
  refine zeP rfl rfl ?_
  refine zeCV rfl rfl rfl rfl zS128 rfl (yc_readTerm (t := 1) (T := T) (e := e) (m := m) (p := p) (b := b) hG hp (by omega) hs) (by omega) ?_
  dsimp only [Option.toList, List.cons_append, List.nil_append]
  refine zeP rfl rfl ?_
  exact zeRe rfl rfl rfl (zretB rfl rfl (readTerm_YB hG hp hbp).2.2.2) (by rfl) (by rfl)
def y_line2 (T : (Nat → Int32)) (e : Nat) (m : (Nat → Nat → Int32)) (p : Nat) (b : Nat) : Int32 × (Nat → Nat → Int32) × Nat × Nat := ((y_readTerm T e m p b 2).1, (y_readTerm T e m p b 2).2.1, (y_readTerm T e m p b 2).2.2.1, (y_readTerm T e m p b 2).2.2.2)
theorem yp_line2 {σ : Nat → Nat × (Nat → Int32)} {yy : (Nat → Nat → Int64) × Bool × Nat × Nat} {m : Nat → Nat → Int32} {p b : Nat} {T : Nat → Int32} {e : Nat} {d : Nat} (hd : 4 ≤ d + 1) (hG : XR m T e) (hp : p ≤ e) (hbp : b ≤ p) (hs : ZS σ) : zEv σ (d + 1) 1002 7 [some (.ref 128), some (.int (Int32.ofNat 2))] [] (zS1, XP m p b, yy) (.inl (some (.int (y_line2 T e m p b).1))) (zS1, XP ((y_line2 T e m p b).2.1) ((y_line2 T e m p b).2.2.1) ((y_line2 T e m p b).2.2.2), yy) := by
  refine zeP rfl rfl ?_
  refine zeP rfl rfl ?_
  refine zeP rfl rfl ?_
  refine zeKn (c := 8) rfl rfl rfl ?_
  refine zeF2 rfl rfl (show zc2 .ge (Int32.ofNat 2) (Int32.ofNat 8) = false by decide) ?_
  refine zeP rfl rfl ?_
  refine zeP rfl rfl ?_
  refine zeCV rfl rfl rfl rfl zS128 rfl (yc_readTerm (t := 2) (T := T) (e := e) (m := m) (p := p) (b := b) hG hp (by omega) hs) (by omega) ?_
  dsimp only [Option.toList, List.cons_append, List.nil_append]
  refine zeP rfl rfl ?_
  exact zeRe rfl rfl rfl (zretB rfl rfl (readTerm_YB hG hp hbp).2.2.2) (by rfl) (by rfl)
def y_line3 (T : (Nat → Int32)) (e : Nat) (m : (Nat → Nat → Int32)) (p : Nat) (b : Nat) : Int32 × (Nat → Nat → Int32) × Nat × Nat := ((y_readTerm T e m p b 3).1, (y_readTerm T e m p b 3).2.1, (y_readTerm T e m p b 3).2.2.1, (y_readTerm T e m p b 3).2.2.2)
theorem yp_line3 {σ : Nat → Nat × (Nat → Int32)} {yy : (Nat → Nat → Int64) × Bool × Nat × Nat} {m : Nat → Nat → Int32} {p b : Nat} {T : Nat → Int32} {e : Nat} {d : Nat} (hd : 4 ≤ d + 1) (hG : XR m T e) (hp : p ≤ e) (hbp : b ≤ p) (hs : ZS σ) : zEv σ (d + 1) 1002 7 [some (.ref 128), some (.int (Int32.ofNat 3))] [] (zS1, XP m p b, yy) (.inl (some (.int (y_line3 T e m p b).1))) (zS1, XP ((y_line3 T e m p b).2.1) ((y_line3 T e m p b).2.2.1) ((y_line3 T e m p b).2.2.2), yy) := by
  refine zeP rfl rfl ?_
  refine zeP rfl rfl ?_
  refine zeP rfl rfl ?_
  refine zeKn (c := 8) rfl rfl rfl ?_
  refine zeF2 rfl rfl (show zc2 .ge (Int32.ofNat 3) (Int32.ofNat 8) = false by decide) ?_
  refine zeP rfl rfl ?_
  refine zeP rfl rfl ?_
  refine zeCV rfl rfl rfl rfl zS128 rfl (yc_readTerm (t := 3) (T := T) (e := e) (m := m) (p := p) (b := b) hG hp (by omega) hs) (by omega) ?_
  dsimp only [Option.toList, List.cons_append, List.nil_append]
  refine zeP rfl rfl ?_
  exact zeRe rfl rfl rfl (zretB rfl rfl (readTerm_YB hG hp hbp).2.2.2) (by rfl) (by rfl)
def y_line4 (T : (Nat → Int32)) (e : Nat) (m : (Nat → Nat → Int32)) (p : Nat) (b : Nat) : Int32 × (Nat → Nat → Int32) × Nat × Nat := ((y_readTerm T e m p b 4).1, (y_readTerm T e m p b 4).2.1, (y_readTerm T e m p b 4).2.2.1, (y_readTerm T e m p b 4).2.2.2)
theorem yp_line4 {σ : Nat → Nat × (Nat → Int32)} {yy : (Nat → Nat → Int64) × Bool × Nat × Nat} {m : Nat → Nat → Int32} {p b : Nat} {T : Nat → Int32} {e : Nat} {d : Nat} (hd : 4 ≤ d + 1) (hG : XR m T e) (hp : p ≤ e) (hbp : b ≤ p) (hs : ZS σ) : zEv σ (d + 1) 1002 7 [some (.ref 128), some (.int (Int32.ofNat 4))] [] (zS1, XP m p b, yy) (.inl (some (.int (y_line4 T e m p b).1))) (zS1, XP ((y_line4 T e m p b).2.1) ((y_line4 T e m p b).2.2.1) ((y_line4 T e m p b).2.2.2), yy) := by
  refine zeP rfl rfl ?_
  refine zeP rfl rfl ?_
  refine zeP rfl rfl ?_
  refine zeKn (c := 8) rfl rfl rfl ?_
  refine zeF2 rfl rfl (show zc2 .ge (Int32.ofNat 4) (Int32.ofNat 8) = false by decide) ?_
  refine zeP rfl rfl ?_
  refine zeP rfl rfl ?_
  refine zeCV rfl rfl rfl rfl zS128 rfl (yc_readTerm (t := 4) (T := T) (e := e) (m := m) (p := p) (b := b) hG hp (by omega) hs) (by omega) ?_
  dsimp only [Option.toList, List.cons_append, List.nil_append]
  refine zeP rfl rfl ?_
  exact zeRe rfl rfl rfl (zretB rfl rfl (readTerm_YB hG hp hbp).2.2.2) (by rfl) (by rfl)
def y_line5 (T : (Nat → Int32)) (e : Nat) (m : (Nat → Nat → Int32)) (p : Nat) (b : Nat) : Int32 × (Nat → Nat → Int32) × Nat × Nat := ((y_readTerm T e m p b 5).1, (y_readTerm T e m p b 5).2.1, (y_readTerm T e m p b 5).2.2.1, (y_readTerm T e m p b 5).2.2.2)
theorem yp_line5 {σ : Nat → Nat × (Nat → Int32)} {yy : (Nat → Nat → Int64) × Bool × Nat × Nat} {m : Nat → Nat → Int32} {p b : Nat} {T : Nat → Int32} {e : Nat} {d : Nat} (hd : 4 ≤ d + 1) (hG : XR m T e) (hp : p ≤ e) (hbp : b ≤ p) (hs : ZS σ) : zEv σ (d + 1) 1002 7 [some (.ref 128), some (.int (Int32.ofNat 5))] [] (zS1, XP m p b, yy) (.inl (some (.int (y_line5 T e m p b).1))) (zS1, XP ((y_line5 T e m p b).2.1) ((y_line5 T e m p b).2.2.1) ((y_line5 T e m p b).2.2.2), yy) := by
  refine zeP rfl rfl ?_
  refine zeP rfl rfl ?_
  refine zeP rfl rfl ?_
  refine zeKn (c := 8) rfl rfl rfl ?_
  refine zeF2 rfl rfl (show zc2 .ge (Int32.ofNat 5) (Int32.ofNat 8) = false by decide) ?_
  refine zeP rfl rfl ?_
  refine zeP rfl rfl ?_
  refine zeCV rfl rfl rfl rfl zS128 rfl (yc_readTerm (t := 5) (T := T) (e := e) (m := m) (p := p) (b := b) hG hp (by omega) hs) (by omega) ?_
  dsimp only [Option.toList, List.cons_append, List.nil_append]
  refine zeP rfl rfl ?_
  exact zeRe rfl rfl rfl (zretB rfl rfl (readTerm_YB hG hp hbp).2.2.2) (by rfl) (by rfl)
def y_line6 (T : (Nat → Int32)) (e : Nat) (m : (Nat → Nat → Int32)) (p : Nat) (b : Nat) : Int32 × (Nat → Nat → Int32) × Nat × Nat := ((y_readTerm T e m p b 6).1, (y_readTerm T e m p b 6).2.1, (y_readTerm T e m p b 6).2.2.1, (y_readTerm T e m p b 6).2.2.2)
theorem yp_line6 {σ : Nat → Nat × (Nat → Int32)} {yy : (Nat → Nat → Int64) × Bool × Nat × Nat} {m : Nat → Nat → Int32} {p b : Nat} {T : Nat → Int32} {e : Nat} {d : Nat} (hd : 4 ≤ d + 1) (hG : XR m T e) (hp : p ≤ e) (hbp : b ≤ p) (hs : ZS σ) : zEv σ (d + 1) 1002 7 [some (.ref 128), some (.int (Int32.ofNat 6))] [] (zS1, XP m p b, yy) (.inl (some (.int (y_line6 T e m p b).1))) (zS1, XP ((y_line6 T e m p b).2.1) ((y_line6 T e m p b).2.2.1) ((y_line6 T e m p b).2.2.2), yy) := by
  refine zeP rfl rfl ?_
  refine zeP rfl rfl ?_
  refine zeP rfl rfl ?_
  refine zeKn (c := 8) rfl rfl rfl ?_
  refine zeF2 rfl rfl (show zc2 .ge (Int32.ofNat 6) (Int32.ofNat 8) = false by decide) ?_
  refine zeP rfl rfl ?_
  refine zeP rfl rfl ?_
  refine zeCV rfl rfl rfl rfl zS128 rfl (yc_readTerm (t := 6) (T := T) (e := e) (m := m) (p := p) (b := b) hG hp (by omega) hs) (by omega) ?_
  dsimp only [Option.toList, List.cons_append, List.nil_append]
  refine zeP rfl rfl ?_
  exact zeRe rfl rfl rfl (zretB rfl rfl (readTerm_YB hG hp hbp).2.2.2) (by rfl) (by rfl)
def y_line7 (T : (Nat → Int32)) (e : Nat) (m : (Nat → Nat → Int32)) (p : Nat) (b : Nat) : Int32 × (Nat → Nat → Int32) × Nat × Nat := ((y_readTerm T e m p b 7).1, (y_readTerm T e m p b 7).2.1, (y_readTerm T e m p b 7).2.2.1, (y_readTerm T e m p b 7).2.2.2)
theorem yp_line7 {σ : Nat → Nat × (Nat → Int32)} {yy : (Nat → Nat → Int64) × Bool × Nat × Nat} {m : Nat → Nat → Int32} {p b : Nat} {T : Nat → Int32} {e : Nat} {d : Nat} (hd : 4 ≤ d + 1) (hG : XR m T e) (hp : p ≤ e) (hbp : b ≤ p) (hs : ZS σ) : zEv σ (d + 1) 1002 7 [some (.ref 128), some (.int (Int32.ofNat 7))] [] (zS1, XP m p b, yy) (.inl (some (.int (y_line7 T e m p b).1))) (zS1, XP ((y_line7 T e m p b).2.1) ((y_line7 T e m p b).2.2.1) ((y_line7 T e m p b).2.2.2), yy) := by
  refine zeP rfl rfl ?_
  refine zeP rfl rfl ?_
  refine zeP rfl rfl ?_
  refine zeKn (c := 8) rfl rfl rfl ?_
  refine zeF2 rfl rfl (show zc2 .ge (Int32.ofNat 7) (Int32.ofNat 8) = false by decide) ?_
  refine zeP rfl rfl ?_
  refine zeP rfl rfl ?_
  refine zeCV rfl rfl rfl rfl zS128 rfl (yc_readTerm (t := 7) (T := T) (e := e) (m := m) (p := p) (b := b) hG hp (by omega) hs) (by omega) ?_
  dsimp only [Option.toList, List.cons_append, List.nil_append]
  refine zeP rfl rfl ?_
  exact zeRe rfl rfl rfl (zretB rfl rfl (readTerm_YB hG hp hbp).2.2.2) (by rfl) (by rfl)
def y_line8 (T : (Nat → Int32)) (e : Nat) (m : (Nat → Nat → Int32)) (p : Nat) : Int32 × (Nat → Nat → Int32) × Nat × Nat := ((y_readTrust T e m p).1, (y_readTrust T e m p).2.1, (y_readTrust T e m p).2.2.1, (y_readTrust T e m p).2.2.2)
theorem yp_line8 {σ : Nat → Nat × (Nat → Int32)} {yy : (Nat → Nat → Int64) × Bool × Nat × Nat} {m : Nat → Nat → Int32} {p b : Nat} {T : Nat → Int32} {e : Nat} {d : Nat} (hd : 4 ≤ d + 1) (hG : XR m T e) (hp : p ≤ e) (hbp : b ≤ p) (hs : ZS σ) : zEv σ (d + 1) 1002 7 [some (.ref 128), some (.int (Int32.ofNat 8))] [] (zS1, XP m p b, yy) (.inl (some (.int (y_line8 T e m p).1))) (zS1, XP ((y_line8 T e m p).2.1) ((y_line8 T e m p).2.2.1) ((y_line8 T e m p).2.2.2), yy) := by
  refine zeP rfl rfl ?_
  refine zeP rfl rfl ?_
  refine zeP rfl rfl ?_
  refine zeCV rfl rfl rfl rfl zS128 rfl (yc_readTrust  (T := T) (e := e) (m := m) (p := p) (b := b) hG hp) (by omega) ?_
  dsimp only [Option.toList, List.cons_append, List.nil_append]
  exact zeRe rfl rfl rfl (zretB rfl rfl (readTrust_YB hG hp).2.2.2) (by rfl) (by rfl)
def y_line9 (T : (Nat → Int32)) (e : Nat) (m : (Nat → Nat → Int32)) (p : Nat) : Int32 × (Nat → Nat → Int32) × Nat × Nat := ((y_readWord T e m p).1, (y_readWord T e m p).2.1, (y_readWord T e m p).2.2.1, (y_readWord T e m p).2.2.2)
theorem yp_line9 {σ : Nat → Nat × (Nat → Int32)} {yy : (Nat → Nat → Int64) × Bool × Nat × Nat} {m : Nat → Nat → Int32} {p b : Nat} {T : Nat → Int32} {e : Nat} {d : Nat} (hd : 4 ≤ d + 1) (hG : XR m T e) (hp : p ≤ e) (hbp : b ≤ p) (hs : ZS σ) : zEv σ (d + 1) 1002 7 [some (.ref 128), some (.int (Int32.ofNat 9))] [] (zS1, XP m p b, yy) (.inl (some (.int (y_line9 T e m p).1))) (zS1, XP ((y_line9 T e m p).2.1) ((y_line9 T e m p).2.2.1) ((y_line9 T e m p).2.2.2), yy) := by
  refine zeP rfl rfl ?_
  refine zeP rfl rfl ?_
  refine zeP rfl rfl ?_
  refine zeCV rfl rfl rfl rfl zS128 rfl (yc_readWord  (T := T) (e := e) (m := m) (p := p) (b := b) hG hp) (by omega) ?_
  dsimp only [Option.toList, List.cons_append, List.nil_append]
  exact zeRe rfl rfl rfl (zretB rfl rfl (readWord_YB hG hp).2.2.2) (by rfl) (by rfl)
def y_line10 (m : (Nat → Nat → Int32)) : Int32 × (Nat → Nat → Int32) := ((Int32.ofNat 1), (zm2 m ((43 + 3)) 8 ((Int32.ofNat 1))))
theorem yp_line10 {σ : Nat → Nat × (Nat → Int32)} {yy : (Nat → Nat → Int64) × Bool × Nat × Nat} {m : Nat → Nat → Int32} {p b : Nat} {T : Nat → Int32} {e : Nat} {d : Nat} (hd : 1 ≤ d + 1) (hG : XR m T e) (hp : p ≤ e) (hbp : b ≤ p) (hs : ZS σ) : zEv σ (d + 1) 1002 7 [some (.ref 128), some (.int (Int32.ofNat 10))] [] (zS1, XP m p b, yy) (.inl (some (.int (y_line10 m).1))) (zS1, XP ((y_line10 m).2) p b, yy) := by
  refine zeP rfl rfl ?_
  refine zeP rfl rfl ?_
  refine zeP rfl rfl ?_
  refine zeGR rfl rfl zS128 rfl rfl ?_
  refine zeGR rfl rfl (shM bb43) rfl rfl ?_
  refine zeKn (c := 8) rfl rfl rfl ?_
  refine zeKn (c := 1) rfl rfl rfl ?_
  refine zeXAS (a := (43 + 3)) (k := 8) (by first | decide | omega) rfl (shE bb43) rfl (by omega) ?_
  refine zeKn (c := 1) rfl rfl rfl ?_
  exact zeRe rfl rfl rfl rfl (by rfl) (by rfl)
def y_line11 (m : (Nat → Nat → Int32)) : Int32 × (Nat → Nat → Int32) := ((Int32.ofNat 1), (zm2 m ((43 + 3)) 8 ((Int32.ofNat 0))))
theorem yp_line11 {σ : Nat → Nat × (Nat → Int32)} {yy : (Nat → Nat → Int64) × Bool × Nat × Nat} {m : Nat → Nat → Int32} {p b : Nat} {T : Nat → Int32} {e : Nat} {d : Nat} (hd : 1 ≤ d + 1) (hG : XR m T e) (hp : p ≤ e) (hbp : b ≤ p) (hs : ZS σ) : zEv σ (d + 1) 1002 7 [some (.ref 128), some (.int (Int32.ofNat 11))] [] (zS1, XP m p b, yy) (.inl (some (.int (y_line11 m).1))) (zS1, XP ((y_line11 m).2) p b, yy) := by
  refine zeP rfl rfl ?_
  refine zeP rfl rfl ?_
  refine zeP rfl rfl ?_
  refine zeGR rfl rfl zS128 rfl rfl ?_
  refine zeGR rfl rfl (shM bb43) rfl rfl ?_
  refine zeKn (c := 8) rfl rfl rfl ?_
  refine zeKn (c := 0) rfl rfl rfl ?_
  refine zeXAS (a := (43 + 3)) (k := 8) (by first | decide | omega) rfl (shE bb43) rfl (by omega) ?_
  refine zeKn (c := 1) rfl rfl rfl ?_
  exact zeRe rfl rfl rfl rfl (by rfl) (by rfl)
def y_line12 (T : (Nat → Int32)) (e : Nat) (m : (Nat → Nat → Int32)) (p : Nat) : Int32 × (Nat → Nat → Int32) × Nat × Nat := ((y_readLock T e m p).1, (y_readLock T e m p).2.1, (y_readLock T e m p).2.2.1, (y_readLock T e m p).2.2.2)
theorem yp_line12 {σ : Nat → Nat × (Nat → Int32)} {yy : (Nat → Nat → Int64) × Bool × Nat × Nat} {m : Nat → Nat → Int32} {p b : Nat} {T : Nat → Int32} {e : Nat} {d : Nat} (hd : 4 ≤ d + 1) (hG : XR m T e) (hp : p ≤ e) (hbp : b ≤ p) (hs : ZS σ) : zEv σ (d + 1) 1002 7 [some (.ref 128), some (.int (Int32.ofNat 12))] [] (zS1, XP m p b, yy) (.inl (some (.int (y_line12 T e m p).1))) (zS1, XP ((y_line12 T e m p).2.1) ((y_line12 T e m p).2.2.1) ((y_line12 T e m p).2.2.2), yy) := by
  refine zeP rfl rfl ?_
  refine zeP rfl rfl ?_
  refine zeP rfl rfl ?_
  refine zeCV rfl rfl rfl rfl zS128 rfl (yc_readLock  (T := T) (e := e) (m := m) (p := p) (b := b) hG hp) (by omega) ?_
  dsimp only [Option.toList, List.cons_append, List.nil_append]
  exact zeRe rfl rfl rfl (zretB rfl rfl (readLock_YB hG hp).2.2.2) (by rfl) (by rfl)
def y_lineN : Int32 := (Int32.ofNat 0)
theorem yp_lineN {σ : Nat → Nat × (Nat → Int32)} {yy : (Nat → Nat → Int64) × Bool × Nat × Nat} {m : Nat → Nat → Int32} {p b : Nat} {T : Nat → Int32} {e : Nat} {d : Nat} (hd : 1 ≤ d + 1) (hG : XR m T e) (hp : p ≤ e) (hbp : b ≤ p) (hs : ZS σ) : zEv σ (d + 1) 1002 7 [some (.ref 128), some (.int (-1))] [] (zS1, XP m p b, yy) (.inl (some (.int y_lineN))) (zS1, XP m p b, yy) := by
  refine zeP rfl rfl ?_
  refine zeP rfl rfl ?_
  refine zeKn (c := 0) rfl rfl rfl ?_
  exact zeRe rfl rfl rfl rfl (by rfl) (by rfl)
theorem prog_b {T : Nat → Int32} {e t : Nat} : ∀ (n k : Nat) (m : Nat → Nat → Int32) (p b : Nat), (yl_prog T e t n k m p b).1 = 0 ∨ (yl_prog T e t n k m p b).1 = 1 := by
  intro n
  induction n with
  | zero => intro k m p b; exact Or.inl rfl
  | succ n ih =>
    intro k m p b
    unfold yl_prog
    exact cnd4 (fun X : Int32 × (Nat → Nat → Int32) × Nat × Nat => X.1 = 0 ∨ X.1 = 1) (fun _ => cnd4 (fun X : Int32 × (Nat → Nat → Int32) × Nat × Nat => X.1 = 0 ∨ X.1 = 1) (fun _ => ih _ _ _ _) (fun _ => Or.inr rfl)) (fun _ => Or.inl rfl)
theorem readProgram_b {T : Nat → Int32} {e : Nat} {m : Nat → Nat → Int32} {p b : Nat} (_ : XR m T e) (_ : p ≤ e) (_ : b ≤ p) (_ : okm m 43 5 4) : (y_readProgram T e m p b).1 = 0 ∨ (y_readProgram T e m p b).1 = 1 := by
  unfold y_readProgram
  exact cnd4 (fun X : Int32 × (Nat → Nat → Int32) × Nat × Nat => X.1 = 0 ∨ X.1 = 1) (fun _ => prog_b _ _ _ _ _) (fun _ => Or.inl rfl)
/-- a line, by the number of its name -/
def y_line (T : Nat → Int32) (e : Nat) (m : Nat → Nat → Int32) (p b K : Nat) : Int32 × (Nat → Nat → Int32) × Nat × Nat := match K with
  | 8 => y_readTrust T e m p
  | 9 => y_readWord T e m p
  | 10 => (Int32.ofNat 1, zm2 m (43 + 3) 8 (Int32.ofNat 1), p, b)
  | 11 => (Int32.ofNat 1, zm2 m (43 + 3) 8 (Int32.ofNat 0), p, b)
  | 12 => y_readLock T e m p
  | k => if k ≤ 7 then y_readTerm T e m p b k else y_readProgram T e m p b
def y_readLine (T : Nat → Int32) (e : Nat) (m : Nat → Nat → Int32) (p : Nat) : Int32 × (Nat → Nat → Int32) × Nat × Nat := bif zc2 .eq (y_readName T e p 0).1 (-1) then (Int32.ofNat 0, m, (y_readName T e p 0).2.1, (y_readName T e p 0).2.2) else y_line T e m (y_readName T e p 0).2.1 (y_readName T e p 0).2.2 (y_readName T e p 0).1.toNatClampNeg
theorem yname_n {T : Nat → Int32} {p b s : Nat} : ∀ (n nm sm : Nat) (df : Int32) (k : Nat), yl_name T p b s n nm sm df k = -1 ∨ ∃ K, K ≤ nm + n ∧ yl_name T p b s n nm sm df k = Int32.ofNat K := by
  intro n
  induction n with
  | zero => intro nm sm df k; exact Or.inl rfl
  | succ n ih =>
    intro nm sm df k
    have up : ∀ nm' sm df k, nm' ≤ nm + 1 → yl_name T p b s n nm' sm df k = -1 ∨ ∃ K, K ≤ nm + (n + 1) ∧ yl_name T p b s n nm' sm df k = Int32.ofNat K := fun nm' sm df k h => by
      rcases ih nm' sm df k with h1 | ⟨K, h1, h2⟩
      · exact Or.inl h1
      · exact Or.inr ⟨K, by omega, h2⟩
    have hit : (Int32.ofNat nm : Int32) = -1 ∨ ∃ K, K ≤ nm + (n + 1) ∧ (Int32.ofNat nm : Int32) = Int32.ofNat K := Or.inr ⟨nm, by omega, rfl⟩
    unfold yl_name
    refine cnd4 (fun X : Int32 => X = -1 ∨ ∃ K, K ≤ nm + (n + 1) ∧ X = Int32.ofNat K) (fun _ => cnd4 (fun X : Int32 => X = -1 ∨ ∃ K, K ≤ nm + (n + 1) ∧ X = Int32.ofNat K) (fun _ => up _ _ _ _ (by omega)) (fun _ => cnd4 (fun X : Int32 => X = -1 ∨ ∃ K, K ≤ nm + (n + 1) ∧ X = Int32.ofNat K) (fun _ => up _ _ _ _ (by omega)) (fun _ => hit))) (fun _ => cnd4 (fun X : Int32 => X = -1 ∨ ∃ K, K ≤ nm + (n + 1) ∧ X = Int32.ofNat K) (fun _ => cnd4 (fun X : Int32 => X = -1 ∨ ∃ K, K ≤ nm + (n + 1) ∧ X = Int32.ofNat K) (fun _ => up _ _ _ _ (by omega)) (fun _ => cnd4 (fun X : Int32 => X = -1 ∨ ∃ K, K ≤ nm + (n + 1) ∧ X = Int32.ofNat K) (fun _ => up _ _ _ _ (by omega)) (fun _ => up _ _ _ _ (by omega)))) (fun _ => cnd4 (fun X : Int32 => X = -1 ∨ ∃ K, K ≤ nm + (n + 1) ∧ X = Int32.ofNat K) (fun _ => up _ _ _ _ (by omega)) (fun _ => cnd4 (fun X : Int32 => X = -1 ∨ ∃ K, K ≤ nm + (n + 1) ∧ X = Int32.ofNat K) (fun _ => up _ _ _ _ (by omega)) (fun _ => hit))))
theorem ynameA_n {T : Nat → Int32} {e b s : Nat} (hq : s < 37) : ∀ n p, (yl_nameA T e b s n p).1 = -1 ∨ ∃ K, K ≤ 101 ∧ (yl_nameA T e b s n p).1 = Int32.ofNat K := by
  have hl := zby_len s hq
  have hit : ∀ p, yl_name T p b s ((zby s).length + 1) 0 b (Int32.ofNat 0) 0 = -1 ∨ ∃ K, K ≤ 101 ∧ yl_name T p b s ((zby s).length + 1) 0 b (Int32.ofNat 0) 0 = Int32.ofNat K := fun p => by
    rcases yname_n (T := T) (p := p) (b := b) (s := s) ((zby s).length + 1) 0 b (Int32.ofNat 0) 0 with h | ⟨K, h1, h2⟩
    · exact Or.inl h
    · exact Or.inr ⟨K, by omega, h2⟩
  intro n
  induction n with
  | zero => intro p; exact hit p
  | succ n ih =>
    intro p
    unfold yl_nameA
    exact cnd4 (fun X : Int32 × Nat => X.1 = -1 ∨ ∃ K, K ≤ 101 ∧ X.1 = Int32.ofNat K) (fun _ => hit p) (fun _ => cnd4 (fun X : Int32 × Nat => X.1 = -1 ∨ ∃ K, K ≤ 101 ∧ X.1 = Int32.ofNat K) (fun _ => hit p) (fun _ => cnd4 (fun X : Int32 × Nat => X.1 = -1 ∨ ∃ K, K ≤ 101 ∧ X.1 = Int32.ofNat K) (fun _ => hit p) (fun _ => ih _)))
theorem yreadName_n {T : Nat → Int32} {e p s : Nat} (hq : s < 37) : (y_readName T e p s).1 = -1 ∨ ∃ K, K ≤ 101 ∧ (y_readName T e p s).1 = Int32.ofNat K := ynameA_n hq _ _
theorem tab12 {K : Nat} (h1 : 13 ≤ K) (h2 : K ≤ 101) : (Int32.ofNat K).toInt < -1 ∨ 12 < (Int32.ofNat K).toInt := by
  rw [zoN (by omega)]
  omega
theorem yp_lineK {σ : Nat → Nat × (Nat → Int32)} {yy : (Nat → Nat → Int64) × Bool × Nat × Nat} {m : Nat → Nat → Int32} {p b : Nat}  {T : Nat → Int32} {e : Nat} {d K : Nat} (hd : 5 ≤ d + 1) (hK : K ≤ 101) (hG : XR m T e) (hp : p ≤ e) (hbp : b ≤ p) (hc : okm m 43 5 4) (hs : ZS σ) : zEv σ (d + 1) 1002 7 [some (.ref 128), some (.int (Int32.ofNat K))] [] (zS1, XP m p b, yy) (.inl (some (.int (y_line T e m p b K).1))) (zS1, XP (y_line T e m p b K).2.1 (y_line T e m p b K).2.2.1 (y_line T e m p b K).2.2.2, yy) := by
  match K, hK with
  | 0, _ =>
    have h := yp_line0 (σ := σ) (yy := yy) (T := T) (e := e) (m := m) (p := p) (b := b) (d := d) (by omega) hG hp hbp hs
    have e0 : y_line T e m p b 0 = y_readTerm T e m p b 0 := by first | rfl | (unfold y_line; rfl) | (unfold y_line; split <;> first | omega | exact if_pos (by omega))
    dsimp only [y_line0] at h
    rw [e0]
    exact h
  | 1, _ =>
    have h := yp_line1 (σ := σ) (yy := yy) (T := T) (e := e) (m := m) (p := p) (b := b) (d := d) (by omega) hG hp hbp hs
    have e0 : y_line T e m p b 1 = y_readTerm T e m p b 1 := by first | rfl | (unfold y_line; rfl) | (unfold y_line; split <;> first | omega | exact if_pos (by omega))
    dsimp only [y_line1] at h
    rw [e0]
    exact h
  | 2, _ =>
    have h := yp_line2 (σ := σ) (yy := yy) (T := T) (e := e) (m := m) (p := p) (b := b) (d := d) (by omega) hG hp hbp hs
    have e0 : y_line T e m p b 2 = y_readTerm T e m p b 2 := by first | rfl | (unfold y_line; rfl) | (unfold y_line; split <;> first | omega | exact if_pos (by omega))
    dsimp only [y_line2] at h
    rw [e0]
    exact h
  | 3, _ =>
    have h := yp_line3 (σ := σ) (yy := yy) (T := T) (e := e) (m := m) (p := p) (b := b) (d := d) (by omega) hG hp hbp hs
    have e0 : y_line T e m p b 3 = y_readTerm T e m p b 3 := by first | rfl | (unfold y_line; rfl) | (unfold y_line; split <;> first | omega | exact if_pos (by omega))
    dsimp only [y_line3] at h
    rw [e0]
    exact h
  | 4, _ =>
    have h := yp_line4 (σ := σ) (yy := yy) (T := T) (e := e) (m := m) (p := p) (b := b) (d := d) (by omega) hG hp hbp hs
    have e0 : y_line T e m p b 4 = y_readTerm T e m p b 4 := by first | rfl | (unfold y_line; rfl) | (unfold y_line; split <;> first | omega | exact if_pos (by omega))
    dsimp only [y_line4] at h
    rw [e0]
    exact h
  | 5, _ =>
    have h := yp_line5 (σ := σ) (yy := yy) (T := T) (e := e) (m := m) (p := p) (b := b) (d := d) (by omega) hG hp hbp hs
    have e0 : y_line T e m p b 5 = y_readTerm T e m p b 5 := by first | rfl | (unfold y_line; rfl) | (unfold y_line; split <;> first | omega | exact if_pos (by omega))
    dsimp only [y_line5] at h
    rw [e0]
    exact h
  | 6, _ =>
    have h := yp_line6 (σ := σ) (yy := yy) (T := T) (e := e) (m := m) (p := p) (b := b) (d := d) (by omega) hG hp hbp hs
    have e0 : y_line T e m p b 6 = y_readTerm T e m p b 6 := by first | rfl | (unfold y_line; rfl) | (unfold y_line; split <;> first | omega | exact if_pos (by omega))
    dsimp only [y_line6] at h
    rw [e0]
    exact h
  | 7, _ =>
    have h := yp_line7 (σ := σ) (yy := yy) (T := T) (e := e) (m := m) (p := p) (b := b) (d := d) (by omega) hG hp hbp hs
    have e0 : y_line T e m p b 7 = y_readTerm T e m p b 7 := by first | rfl | (unfold y_line; rfl) | (unfold y_line; split <;> first | omega | exact if_pos (by omega))
    dsimp only [y_line7] at h
    rw [e0]
    exact h
  | 8, _ =>
    have h := yp_line8 (σ := σ) (yy := yy) (T := T) (e := e) (m := m) (p := p) (b := b) (d := d) (by omega) hG hp hbp hs
    have e0 : y_line T e m p b 8 = y_readTrust T e m p := rfl
    dsimp only [y_line8] at h
    rw [e0]
    exact h
  | 9, _ =>
    have h := yp_line9 (σ := σ) (yy := yy) (T := T) (e := e) (m := m) (p := p) (b := b) (d := d) (by omega) hG hp hbp hs
    have e0 : y_line T e m p b 9 = y_readWord T e m p := rfl
    dsimp only [y_line9] at h
    rw [e0]
    exact h
  | 10, _ =>
    have h := yp_line10 (σ := σ) (yy := yy) (T := T) (e := e) (m := m) (p := p) (b := b) (d := d) (by omega) hG hp hbp hs
    have e0 : y_line T e m p b 10 = (Int32.ofNat 1, zm2 m (43 + 3) 8 (Int32.ofNat 1), p, b) := rfl
    dsimp only [y_line10] at h
    rw [e0]
    exact h
  | 11, _ =>
    have h := yp_line11 (σ := σ) (yy := yy) (T := T) (e := e) (m := m) (p := p) (b := b) (d := d) (by omega) hG hp hbp hs
    have e0 : y_line T e m p b 11 = (Int32.ofNat 1, zm2 m (43 + 3) 8 (Int32.ofNat 0), p, b) := rfl
    dsimp only [y_line11] at h
    rw [e0]
    exact h
  | 12, _ =>
    have h := yp_line12 (σ := σ) (yy := yy) (T := T) (e := e) (m := m) (p := p) (b := b) (d := d) (by omega) hG hp hbp hs
    have e0 : y_line T e m p b 12 = y_readLock T e m p := rfl
    dsimp only [y_line12] at h
    rw [e0]
    exact h
  | k + 13, hK =>
    have e2 : y_line T e m p b (k + 13) = y_readProgram T e m p b := by
      unfold y_line
      split <;> first | omega | exact if_neg (by omega)
    rw [e2]
    refine zeP rfl rfl ?_
    refine zeSwD rfl (tab12 (by omega) hK) rfl ?_
    refine zeP rfl rfl ?_
    refine zeKn (c := 8) rfl rfl rfl ?_
    refine zeT2 rfl rfl (zcge (by omega) (by omega) (by omega)) ?_
    refine zeP rfl rfl ?_
    refine zeCV rfl rfl rfl rfl zS128 rfl (yc_readProgram (m := m) (p := p) (b := b) (T := T) (e := e) hG hp hc hs) (by omega) ?_
    dsimp only [Option.toList, List.cons_append, List.nil_append]
    exact zeRe rfl rfl rfl (zretB rfl rfl (readProgram_b hG hp hbp hc)) rfl rfl
theorem yc_readLine {σ : Nat → Nat × (Nat → Int32)} {yy : (Nat → Nat → Int64) × Bool × Nat × Nat} {m : Nat → Nat → Int32} {p b : Nat} {T : Nat → Int32} {e : Nat} (hG : XR m T e) (hp : p ≤ e) (hc : okm m 43 5 4) (hs : ZS σ) : zF σ 6 1002 [.ref 128] (zS1, XP m p b, yy) (.inl (some (.int (y_readLine T e m p).1))) (zS1, XP (y_readLine T e m p).2.1 (y_readLine T e m p).2.2.1 (y_readLine T e m p).2.2.2, yy) := by
  intro d hd
  obtain ⟨d, rfl⟩ : ∃ k, d = k + 1 := ⟨d - 1, by omega⟩
  have hn := yname_le (T := T) (s := 0) hG.2.2 hp
  show zEv σ (d + 1) 1002 0 [some (.ref 128), none] [] _ _ _
  refine zeP rfl rfl ?_
  refine zeS rfl rfl rfl ?_
  refine zeCV rfl rfl rfl rfl zS128 rfl (yc_readName (m := m) (p := p) (b := b) (T := T) (e := e) (s := 0) hG (by omega) hp) (by omega) ?_
  dsimp only [Option.toList, List.cons_append, List.nil_append]
  refine zeP rfl rfl ?_
  unfold y_readLine
  rcases yreadName_n (T := T) (e := e) (p := p) (s := 0) (by omega) with h | ⟨K, hK, h⟩
  · rw [h]
    exact yp_lineN (by omega) hG hn.1 hn.2 hs
  · have hne : zc2 .eq (Int32.ofNat K) (-1) = false := by
      apply decide_eq_false
      intro q
      have := congrArg Int32.toInt q
      rw [zoN (by omega)] at this
      exact absurd this (by show ¬ ((K : Int) = -1); omega)
    rw [h, hne, cond_false, nv_on (by omega)]
    exact yp_lineK (by omega) hK hG hn.1 hn.2 hc hs
theorem line_YC {T : Nat → Int32} {e : Nat} {m : Nat → Nat → Int32} {p b K : Nat} (hG : XR m T e) (hp : p ≤ e) (hb : b ≤ p) (hc : CG m 43) (hk : KX m 43 P0) : YC T e (y_line T e m p b K) := by
  have u : ∀ x, YC T e (Int32.ofNat 1, zm2 m (43 + 3) 8 x, p, b) := fun x => YC.mk (hG.put _ (by omega)) hp hb (Or.inr rfl) (hc.put _ (ncX (by omega))) (hk.put _ (ndX (by omega) (by omega)))
  unfold y_line
  split
  · exact readTrust_YC hG hp hc hk
  · exact readWord_YC hG hp hc hk
  · exact u _
  · exact u _
  · exact readLock_YC hG hp hc hk
  · split
    · exact readTerm_YC hG hp hb hc hk
    · exact readProgram_YC hG hp hb hc hk
theorem readLine_YC {T : Nat → Int32} {e : Nat} {m : Nat → Nat → Int32} {p : Nat} (hG : XR m T e) (hp : p ≤ e) (hc : CG m 43) (hk : KX m 43 P0) : YC T e (y_readLine T e m p) := by
  have hn := yname_le (T := T) (s := 0) hG.2.2 hp
  unfold y_readLine
  exact cnd4 (YC T e) (fun _ => YC.mk hG hn.1 hn.2 (Or.inl rfl) hc hk) (fun _ => line_YC hG hn.1 hn.2 hc hk)
def yl_all (T : (Nat → Int32)) (e : Nat) : Nat → Nat → (Nat → Nat → Int32) → Nat → Nat → Int32 × (Nat → Nat → Int32) × Nat × Nat
  | 0, k, m, p, b => ((Int32.ofNat (lkB T e p)), m, (lkB T e p), (lkB T e p))
  | n + 1, k, m, p, b => (bif zc1 .ne (y_readLine T e m p).1 then (bif zc2 .lt (Int32.ofNat (lkB T e ((y_readLine T e m p).2.2.1))) (Int32.ofNat e) then (bif zc1 .ne (y_skipSign T e ((lkB T e ((y_readLine T e m p).2.2.1))) 59).1 then (yl_all T e n ((k + 1)) ((y_readLine T e m p).2.1) ((y_skipSign T e ((lkB T e ((y_readLine T e m p).2.2.1))) 59).2) ((lkB T e ((y_readLine T e m p).2.2.1)))) else ((Int32.ofNat (lkB T e ((y_readLine T e m p).2.2.1))), (y_readLine T e m p).2.1, (y_skipSign T e ((lkB T e ((y_readLine T e m p).2.2.1))) 59).2, (lkB T e ((y_readLine T e m p).2.2.1)))) else ((-1), (y_readLine T e m p).2.1, (lkB T e ((y_readLine T e m p).2.2.1)), (lkB T e ((y_readLine T e m p).2.2.1)))) else ((Int32.ofNat (y_readLine T e m p).2.2.2), (y_readLine T e m p).2.1, (y_readLine T e m p).2.2.1, (y_readLine T e m p).2.2.2))
theorem yw_all {σ : Nat → Nat × (Nat → Int32)} {yy : (Nat → Nat → Int64) × Bool × Nat × Nat} {T : Nat → Int32} {e : Nat} {d : Nat} (hd : 7 ≤ d + 1) (hs : ZS σ) : ∀ (n : Nat) (x : Option Value) (k : Nat) (m : (Nat → Nat → Int32)) (p : Nat) (b : Nat), k + n = 14 → (XR m T e) → (p ≤ e) → (CG m 43) → (KX m 43 P0) → zEv σ (d + 1) 1001 37 [some (.ref 128), x, some (.int (Int32.ofNat k))] [] (zS1, XP m p b, yy) (.inl (some (.int (yl_all T e n k m p b).1))) (zS1, XP ((yl_all T e n k m p b).2.1) ((yl_all T e n k m p b).2.2.1) ((yl_all T e n k m p b).2.2.2), yy) := by
  intro n
  induction n with
  | zero =>
    intro x k m p b hk hG hp hc hk0
    refine zeP rfl rfl ?_
    refine zeKn (c := 14) rfl rfl rfl ?_
    refine zeT2 rfl rfl (zcge (by omega) (by omega) (by omega)) ?_
    refine zeP rfl rfl ?_
    refine zeCV rfl rfl rfl rfl zS128 rfl (yc_look (m := m) (p := p) (b := b) (T := T) (e := e) hG hp) (by omega) ?_
    dsimp only [Option.toList, List.cons_append, List.nil_append]
    refine zeP rfl rfl ?_
    refine zeXb rfl rfl ?_
    exact zeRe rfl rfl rfl rfl (by rfl) (by rfl)
  | succ n ih =>
    intro x k m p b hk hG hp hc hk0
    refine zeP rfl rfl ?_
    refine zeKn (c := 14) rfl rfl rfl ?_
    refine zeF2 rfl rfl (zcge_f (by omega) (by omega) (by omega)) ?_
    refine zeP rfl rfl ?_
    refine zeCV rfl rfl rfl rfl zS128 rfl (yc_readLine (m := m) (p := p) (b := b) (T := T) (e := e) hG hp ⟨hc.c, hc.c4⟩ hs) (by omega) ?_
    dsimp only [Option.toList, List.cons_append, List.nil_append]
    refine zeB1 rfl rfl (fun h1 => ?_) (fun h1 => ?_)
    · refine zeP rfl rfl ?_
      refine zeCV rfl rfl rfl rfl zS128 rfl (yc_look (m := (y_readLine T e m p).2.1) (p := (y_readLine T e m p).2.2.1) (b := (y_readLine T e m p).2.2.2) (T := T) (e := e) (readLine_YC hG hp hc hk0).1.1 (readLine_YC hG hp hc hk0).1.2.1) (by omega) ?_
      dsimp only [Option.toList, List.cons_append, List.nil_append]
      refine zeP rfl rfl ?_
      refine zeXb rfl rfl ?_
      refine zeP rfl rfl ?_
      refine zeXe (readLine_YC hG hp hc hk0).1.1.2.1 rfl rfl ?_
      refine zeB2 rfl rfl (fun h2 => ?_) (fun h2 => ?_)
      · refine zeP rfl rfl ?_
        refine zeKn (c := 59) rfl rfl rfl ?_
        refine zeCV rfl rfl rfl rfl zS128 rfl (yc_skipSign (c := 59) (T := T) (e := e) (m := (y_readLine T e m p).2.1) (p := (lkB T e ((y_readLine T e m p).2.2.1))) (b := (lkB T e ((y_readLine T e m p).2.2.1))) (readLine_YC hG hp hc hk0).1.1 (by have := (lkB_le (T := T) hG.2.2 (readLine_YC hG hp hc hk0).1.2.1).2; have := hG.2.2; omega)) (by omega) ?_
        dsimp only [Option.toList, List.cons_append, List.nil_append]
        refine zeB1 rfl rfl (fun h3 => ?_) (fun h3 => ?_)
        · refine zeInc rfl rfl ?_
          refine zeP rfl rfl ?_
          simp only [yl_all, h1, h2, h3, cond_true, cond_false]
          exact ih (x) ((k + 1)) ((y_readLine T e m p).2.1) ((y_skipSign T e ((lkB T e ((y_readLine T e m p).2.2.1))) 59).2) ((lkB T e ((y_readLine T e m p).2.2.1))) (by omega) (readLine_YC hG hp hc hk0).1.1 (yskip_le hG.2.2 (lkB_le (T := T) hG.2.2 (readLine_YC hG hp hc hk0).1.2.1).2).2 (readLine_YC hG hp hc hk0).2.1 (readLine_YC hG hp hc hk0).2.2
        · refine zeP rfl rfl ?_
          refine zeXb rfl rfl ?_
          exact zeRe rfl rfl rfl rfl (by simp only [yl_all, h1, h2, h3, cond_true, cond_false] <;> rfl) (by simp only [yl_all, h1, h2, h3, cond_true, cond_false] <;> rfl)
      · refine zeK (v := -1) rfl rfl rfl ?_
        exact zeRe rfl rfl rfl rfl (by simp only [yl_all, h1, h2, cond_true, cond_false] <;> rfl) (by simp only [yl_all, h1, h2, cond_true, cond_false] <;> rfl)
    · refine zeP rfl rfl ?_
      refine zeXb rfl rfl ?_
      exact zeRe rfl rfl rfl rfl (by simp only [yl_all, h1, cond_true, cond_false] <;> rfl) (by simp only [yl_all, h1, cond_true, cond_false] <;> rfl)
def y_readAll18 (T : (Nat → Int32)) (e : Nat) (m : (Nat → Nat → Int32)) (p : Nat) : Int32 × (Nat → Nat → Int32) × Nat × Nat := (bif zc2 .lt (Int32.ofNat (lkB T e p)) (Int32.ofNat e) then (yl_all T e 14 0 m ((lkB T e p)) ((lkB T e p))) else ((-1), m, (lkB T e p), (lkB T e p)))
theorem yp_readAll18 {σ : Nat → Nat × (Nat → Int32)} {yy : (Nat → Nat → Int64) × Bool × Nat × Nat} {m : Nat → Nat → Int32} {p b : Nat} {T : Nat → Int32} {e : Nat} {x : Option Value} {d : Nat} (hd : 7 ≤ d + 1) (hs : ZS σ) (hG : XR m T e) (hp : p ≤ e) (hc : CG m 43) (hk0 : KX m 43 P0) : zEv σ (d + 1) 1001 18 [some (.ref 128), x, none] [] (zS1, XP m p b, yy) (.inl (some (.int (y_readAll18 T e m p).1))) (zS1, XP ((y_readAll18 T e m p).2.1) ((y_readAll18 T e m p).2.2.1) ((y_readAll18 T e m p).2.2.2), yy) := by
  refine zeP rfl rfl ?_
  refine zeCV rfl rfl rfl rfl zS128 rfl (yc_look (m := m) (p := p) (b := b) (T := T) (e := e) hG hp) (by omega) ?_
  dsimp only [Option.toList, List.cons_append, List.nil_append]
  refine zeP rfl rfl ?_
  refine zeXb rfl rfl ?_
  refine zeP rfl rfl ?_
  refine zeXe hG.2.1 rfl rfl ?_
  refine zeB2 rfl rfl (fun h1 => ?_) (fun h1 => ?_)
  · refine zeKn (c := 0) rfl rfl rfl ?_
    refine zeP rfl rfl ?_
    simp only [y_readAll18, h1, cond_true, cond_false]
    exact yw_all  (T := T) (e := e) (by omega) hs 14 (x) (0) m ((lkB T e p)) ((lkB T e p)) (by omega) hG (lkB_le hG.2.2 hp).2 hc hk0
  · refine zeK (v := -1) rfl rfl rfl ?_
    exact zeRe rfl rfl rfl rfl (by simp only [y_readAll18, h1, cond_true, cond_false] <;> rfl) (by simp only [y_readAll18, h1, cond_true, cond_false] <;> rfl)
