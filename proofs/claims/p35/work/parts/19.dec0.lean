/-! decoding, by the bytes in a row -/
noncomputable def zslow (i : Instr) : Bool := match i with
  | .newarray _ | .tableswitch _ _ _ _ | .lookupswitch _ _ => true
  | _ => false
noncomputable def zq0 (k : Nat) (L : List UInt8) (n : Nat) : Bool := match L with
  | x :: _ => Nat.beq x.toNat k && Nat.beq n 1
  | [] => false
noncomputable def zq1 (k v : Nat) (L : List UInt8) (n : Nat) : Bool := match L with
  | x :: y :: _ => Nat.beq x.toNat k && Nat.beq y.toNat v && Nat.beq n 2
  | _ => false
noncomputable def zqb (k : Nat) (v : Int) (L : List UInt8) (n : Nat) : Bool := match L with
  | x :: y :: _ => Nat.beq x.toNat k && decide (Reader.signed 8 y.toNat = v) && Nat.beq n 2
  | _ => false
noncomputable def zq2 (k v : Nat) (L : List UInt8) (n : Nat) : Bool := match L with
  | x :: y :: z :: _ => Nat.beq x.toNat k && Nat.beq (y.toNat * 256 + z.toNat) v && Nat.beq n 3
  | _ => false
noncomputable def zqs (k : Nat) (v : Int) (L : List UInt8) (n : Nat) : Bool := match L with
  | x :: y :: z :: _ => Nat.beq x.toNat k && decide (Reader.signed 16 (y.toNat * 256 + z.toNat) = v) && Nat.beq n 3
  | _ => false
noncomputable def zqi (v : Nat) (w : Int) (L : List UInt8) (n : Nat) : Bool := match L with
  | x :: y :: z :: _ => Nat.beq x.toNat 132 && Nat.beq y.toNat v && decide (Reader.signed 8 z.toNat = w) && Nat.beq n 3
  | _ => false
noncomputable def zqc (k : Nat) (c : ClassFile.Cond) : Nat := match c with
  | .eq => k
  | .ne => k + 1
  | .lt => k + 2
  | .ge => k + 3
  | .gt => k + 4
  | .le => k + 5
noncomputable def zck (i : Instr) (L : List UInt8) (n : Nat) : Bool := match i with
  | .aload_n j => zq0 (42 + j.val) L n
  | .iload_n j => zq0 (26 + j.val) L n
  | .istore_n j => zq0 (59 + j.val) L n
  | .astore_n j => zq0 (75 + j.val) L n
  | .iconst v => decide (-1 ≤ v) && decide (v ≤ 5) && zq0 (v + 3).toNat L n
  | .ireturn => zq0 172 L n
  | .iadd => zq0 96 L n
  | .iaload => zq0 46 L n
  | .iastore => zq0 79 L n
  | .dup => zq0 89 L n
  | .return_ => zq0 177 L n
  | .iand => zq0 126 L n
  | .isub => zq0 100 L n
  | .pop => zq0 87 L n
  | .ior => zq0 128 L n
  | .i2l => zq0 133 L n
  | .lastore => zq0 80 L n
  | .imul => zq0 104 L n
  | .dup2 => zq0 92 L n
  | .irem => zq0 112 L n
  | .athrow => zq0 191 L n
  | .ishl => zq0 120 L n
  | .baload => zq0 51 L n
  | .iushr => zq0 124 L n
  | .aastore => zq0 83 L n
  | .aaload => zq0 50 L n
  | .idiv => zq0 108 L n
  | .i2b => zq0 145 L n
  | .bastore => zq0 84 L n
  | .areturn => zq0 176 L n
  | .ixor => zq0 130 L n
  | .arraylength => zq0 190 L n
  | .ishr => zq0 122 L n
  | .laload => zq0 47 L n
  | .lcmp => zq0 148 L n
  | .iload v => zq1 21 v L n
  | .istore v => zq1 54 v L n
  | .ldc v => zq1 18 v L n
  | .astore v => zq1 58 v L n
  | .aload v => zq1 25 v L n
  | .bipush v => zqb 16 v L n
  | .sipush v => zqs 17 v L n
  | .goto v => zqs 167 v L n
  | .if_icmp c v => zqs (zqc 159 c) v L n
  | .ifCond c v => zqs (zqc 153 c) v L n
  | .getfield v => zq2 180 v L n
  | .putfield v => zq2 181 v L n
  | .invokevirtual v => zq2 182 v L n
  | .invokespecial v => zq2 183 v L n
  | .invokestatic v => zq2 184 v L n
  | .new v => zq2 187 v L n
  | .ldc_w v => zq2 19 v L n
  | .getstatic v => zq2 178 v L n
  | .anewarray v => zq2 189 v L n
  | .iinc v w => zqi v w L n
  | _ => false
noncomputable def zkw : List (Nat × Instr × Nat) → Nat → List UInt8 → Bool
  | [], _, _ => true
  | e :: t, p, L => Nat.beq e.1 p && (zslow e.2.1 || zck e.2.1 L e.2.2) && zkw t (e.1 + e.2.2) (L.drop e.2.2)
noncomputable def zct (q : Nat) : { f : Nat → Decoder Instr // Decoder.instr q = Reader.u1 >>= f } := ⟨_, rfl⟩
section ZDF
variable {cc : ByteArray} {p k n m v : Nat} {w : Int} {x y z : UInt8} {r L : List UInt8} {i : Instr}
theorem zu1 (h : cc.data.toList.drop p = x :: r) : (Reader.u1 : Decoder Nat) cc p = .ok (x.toNat, p + 1) ∧ cc.data.toList.drop (p + 1) = r := by
  have hp : p < cc.data.toList.length := by
    have := congrArg List.length h
    rw [List.length_drop, List.length_cons] at this
    omega
  have e := List.drop_eq_getElem_cons hp
  rw [h] at e
  injection e with e1 e2
  refine ⟨?_, e2.symm⟩
  have hs : p < cc.size := hp
  show (dite (p < cc.size) (fun h => (do set (p + 1); pure (cc[p]'h).toNat : Decoder Nat)) (fun _ => throw (HasTruncated.truncated p))) cc p = _
  rw [dif_pos hs, e1]
  rfl
theorem zu2 (h : cc.data.toList.drop p = x :: y :: r) : (Reader.u2 : Decoder Nat) cc p = .ok (x.toNat * 256 + y.toNat, p + 2) := by
  obtain ⟨a1, a2⟩ := zu1 h
  show ((Reader.u1 : Decoder Nat) cc p >>= fun (u : Nat × Nat) => (Reader.u1 : Decoder Nat) cc u.2 >>= fun (t : Nat × Nat) => Except.ok (u.1 * 256 + t.1, t.2)) = _
  rw [a1]
  show ((Reader.u1 : Decoder Nat) cc (p + 1) >>= fun (t : Nat × Nat) => Except.ok (x.toNat * 256 + t.1, t.2)) = _
  rw [(zu1 a2).1]
  rfl
theorem zub (h : cc.data.toList.drop p = x :: r) : (Reader.s1 : Decoder Int) cc p = .ok (Reader.signed 8 x.toNat, p + 1) := by
  show ((Reader.u1 : Decoder Nat) cc p >>= fun (u : Nat × Nat) => Except.ok (Reader.signed 8 u.1, u.2)) = _
  rw [(zu1 h).1]
  rfl
theorem zus (h : cc.data.toList.drop p = x :: y :: r) : (Reader.s2 : Decoder Int) cc p = .ok (Reader.signed 16 (x.toNat * 256 + y.toNat), p + 2) := by
  show ((Reader.u2 : Decoder Nat) cc p >>= fun (u : Nat × Nat) => Except.ok (Reader.signed 16 u.1, u.2)) = _
  rw [zu2 h]
  rfl
theorem zdk {q : Nat} (h : cc.data.toList.drop p = x :: r) : Decoder.instr q cc p = (zct q).1 x.toNat cc (p + 1) := by
  refine (congrFun (congrFun (zct q).2 cc) p).trans ?_
  show ((Reader.u1 : Decoder Nat) cc p >>= fun (u : Nat × Nat) => (zct q).1 u.1 cc u.2) = _
  rw [(zu1 h).1]
  rfl
theorem zdo (h : Decoder.instr p cc p = .ok (i, n)) : decode cc p = .ok (i, n - p) := by
  unfold decode
  show (Decoder.instr p cc p >>= fun (u : Instr × Nat) => Except.ok (u.1, u.2 - p)) = _
  rw [h]
  rfl
/-- an instruction without operands -/
theorem zq0_ok (hf : ∀ (q : Nat) (c : ByteArray) (a : Nat), (zct q).1 k c a = .ok (i, a)) (hz : zlen i = 1) (h : zq0 k L n = true) (hL : cc.data.toList.drop p = L) : decode cc p = .ok (i, n) ∧ zlen i = n := by
  unfold zq0 at h
  split at h
  · simp only [Bool.and_eq_true, Nat.beq_eq] at h
    obtain ⟨h1, rfl⟩ := h
    have e := zdk (q := p) hL
    rw [h1, hf] at e
    refine ⟨?_, hz⟩
    rw [zdo e, Nat.add_sub_cancel_left]
  · exact absurd h (by decide)
/-- one with operands that a reader reads -/
theorem zqr_ok {β : Type} {rd : Decoder β} {g : β → Instr} {b : β} (hf : ∀ (q : Nat) (c : ByteArray) (a : Nat), (zct q).1 k c a = (rd c a >>= fun (u : β × Nat) => Except.ok (g u.1, u.2))) (hL : cc.data.toList.drop p = x :: r) (hx : x.toNat = k) (hr : rd cc (p + 1) = .ok (b, p + 1 + m)) : decode cc p = .ok (g b, 1 + m) := by
  have e := zdk (q := p) hL
  rw [hx, hf, hr] at e
  rw [zdo e, Nat.add_assoc, Nat.add_sub_cancel_left]
theorem zq1_ok {g : Nat → Instr} (hf : ∀ (q : Nat) (c : ByteArray) (a : Nat), (zct q).1 k c a = ((Reader.u1 : Decoder Nat) c a >>= fun (u : Nat × Nat) => Except.ok (g u.1, u.2))) (hz : zlen (g v) = 2) (h : zq1 k v L n = true) (hL : cc.data.toList.drop p = L) : decode cc p = .ok (g v, n) ∧ zlen (g v) = n := by
  unfold zq1 at h
  split at h
  · simp only [Bool.and_eq_true, Nat.beq_eq] at h
    obtain ⟨⟨h1, rfl⟩, rfl⟩ := h
    exact ⟨zqr_ok hf hL h1 (zu1 (zu1 hL).2).1, hz⟩
  · exact absurd h (by decide)
theorem zqb_ok {g : Int → Instr} (hf : ∀ (q : Nat) (c : ByteArray) (a : Nat), (zct q).1 k c a = ((Reader.s1 : Decoder Int) c a >>= fun (u : Int × Nat) => Except.ok (g u.1, u.2))) (hz : zlen (g w) = 2) (h : zqb k w L n = true) (hL : cc.data.toList.drop p = L) : decode cc p = .ok (g w, n) ∧ zlen (g w) = n := by
  unfold zqb at h
  split at h
  · simp only [Bool.and_eq_true, Nat.beq_eq, decide_eq_true_eq] at h
    obtain ⟨⟨h1, rfl⟩, rfl⟩ := h
    exact ⟨zqr_ok hf hL h1 (zub (zu1 hL).2), hz⟩
  · exact absurd h (by decide)
theorem zq2_ok {g : Nat → Instr} (hf : ∀ (q : Nat) (c : ByteArray) (a : Nat), (zct q).1 k c a = ((Reader.u2 : Decoder Nat) c a >>= fun (u : Nat × Nat) => Except.ok (g u.1, u.2))) (hz : zlen (g v) = 3) (h : zq2 k v L n = true) (hL : cc.data.toList.drop p = L) : decode cc p = .ok (g v, n) ∧ zlen (g v) = n := by
  unfold zq2 at h
  split at h
  · simp only [Bool.and_eq_true, Nat.beq_eq] at h
    obtain ⟨⟨h1, rfl⟩, rfl⟩ := h
    exact ⟨zqr_ok hf hL h1 (zu2 (zu1 hL).2), hz⟩
  · exact absurd h (by decide)
theorem zqs_ok {g : Int → Instr} (hf : ∀ (q : Nat) (c : ByteArray) (a : Nat), (zct q).1 k c a = ((Reader.s2 : Decoder Int) c a >>= fun (u : Int × Nat) => Except.ok (g u.1, u.2))) (hz : zlen (g w) = 3) (h : zqs k w L n = true) (hL : cc.data.toList.drop p = L) : decode cc p = .ok (g w, n) ∧ zlen (g w) = n := by
  unfold zqs at h
  split at h
  · simp only [Bool.and_eq_true, Nat.beq_eq, decide_eq_true_eq] at h
    obtain ⟨⟨h1, rfl⟩, rfl⟩ := h
    exact ⟨zqr_ok hf hL h1 (zus (zu1 hL).2), hz⟩
  · exact absurd h (by decide)
theorem ziincf (q : Nat) (c : ByteArray) (a : Nat) : (zct q).1 132 c a = (((Reader.u1 : Decoder Nat) c a >>= fun (u : Nat × Nat) => (Reader.s1 : Decoder Int) c u.2 >>= fun (t : Int × Nat) => Except.ok ((u.1, t.1), t.2)) >>= fun (u : (Nat × Int) × Nat) => Except.ok (Instr.iinc u.1.1 u.1.2, u.2)) := by
  show ((Reader.u1 : Decoder Nat) c a >>= fun (u : Nat × Nat) => (Reader.s1 : Decoder Int) c u.2 >>= fun (t : Int × Nat) => Except.ok (Instr.iinc u.1 t.1, t.2)) = _
  cases (Reader.u1 : Decoder Nat) c a with
  | error e => rfl
  | ok u =>
    show ((Reader.s1 : Decoder Int) c u.2 >>= fun (t : Int × Nat) => Except.ok (Instr.iinc u.1 t.1, t.2)) = (((Reader.s1 : Decoder Int) c u.2 >>= fun (t : Int × Nat) => Except.ok ((u.1, t.1), t.2)) >>= fun (u : (Nat × Int) × Nat) => Except.ok (Instr.iinc u.1.1 u.1.2, u.2))
    cases (Reader.s1 : Decoder Int) c u.2 <;> rfl
theorem zqi_ok (h : zqi v w L n = true) (hL : cc.data.toList.drop p = L) : decode cc p = .ok (.iinc v w, n) ∧ zlen (.iinc v w) = n := by
  unfold zqi at h
  split at h
  · simp only [Bool.and_eq_true, Nat.beq_eq, decide_eq_true_eq] at h
    obtain ⟨⟨⟨h1, rfl⟩, rfl⟩, rfl⟩ := h
    obtain ⟨b1, b2⟩ := zu1 (zu1 hL).2
    refine ⟨zqr_ok (b := (_, _)) (k := 132) (m := 2) (rd := fun c a => ((Reader.u1 : Decoder Nat) c a >>= fun (u : Nat × Nat) => (Reader.s1 : Decoder Int) c u.2 >>= fun (t : Int × Nat) => Except.ok ((u.1, t.1), t.2))) (g := fun u : Nat × Int => Instr.iinc u.1 u.2) ziincf hL h1 ?_, rfl⟩
    show ((Reader.u1 : Decoder Nat) cc (p + 1) >>= fun (u : Nat × Nat) => (Reader.s1 : Decoder Int) cc u.2 >>= fun (t : Int × Nat) => Except.ok ((u.1, t.1), t.2)) = _
    rw [b1]
    show ((Reader.s1 : Decoder Int) cc (p + 1 + 1) >>= fun (t : Int × Nat) => Except.ok ((_, t.1), t.2)) = _
    rw [zub b2]
    rfl
  · exact absurd h (by decide)
theorem zfin4 (j : Fin 4) : j = 0 ∨ j = 1 ∨ j = 2 ∨ j = 3 := by
  match j with
  | 0 => exact Or.inl rfl
  | 1 => exact Or.inr (Or.inl rfl)
  | 2 => exact Or.inr (Or.inr (Or.inl rfl))
  | 3 => exact Or.inr (Or.inr (Or.inr rfl))
theorem zck_ok (hL : cc.data.toList.drop p = L) (h : zck i L n = true) : decode cc p = .ok (i, n) ∧ zlen i = n := by
  cases i
  case aload_n j => rcases zfin4 j with rfl | rfl | rfl | rfl <;> exact zq0_ok (fun _ _ _ => rfl) rfl h hL
  case iload_n j => rcases zfin4 j with rfl | rfl | rfl | rfl <;> exact zq0_ok (fun _ _ _ => rfl) rfl h hL
  case istore_n j => rcases zfin4 j with rfl | rfl | rfl | rfl <;> exact zq0_ok (fun _ _ _ => rfl) rfl h hL
  case astore_n j => rcases zfin4 j with rfl | rfl | rfl | rfl <;> exact zq0_ok (fun _ _ _ => rfl) rfl h hL
  case iconst j =>
    have h' : (decide (-1 ≤ j) && decide (j ≤ 5) && zq0 (j + 3).toNat L n) = true := h
    simp only [Bool.and_eq_true, decide_eq_true_eq] at h'
    obtain ⟨⟨h1, h2⟩, h3⟩ := h'
    have hj : j = -1 ∨ j = 0 ∨ j = 1 ∨ j = 2 ∨ j = 3 ∨ j = 4 ∨ j = 5 := by omega
    rcases hj with rfl | rfl | rfl | rfl | rfl | rfl | rfl <;> exact zq0_ok (fun _ _ _ => rfl) rfl h3 hL
  case ireturn => exact zq0_ok (fun _ _ _ => rfl) rfl h hL
  case iadd => exact zq0_ok (fun _ _ _ => rfl) rfl h hL
  case iaload => exact zq0_ok (fun _ _ _ => rfl) rfl h hL
  case iastore => exact zq0_ok (fun _ _ _ => rfl) rfl h hL
  case dup => exact zq0_ok (fun _ _ _ => rfl) rfl h hL
  case return_ => exact zq0_ok (fun _ _ _ => rfl) rfl h hL
  case iand => exact zq0_ok (fun _ _ _ => rfl) rfl h hL
  case isub => exact zq0_ok (fun _ _ _ => rfl) rfl h hL
  case pop => exact zq0_ok (fun _ _ _ => rfl) rfl h hL
  case ior => exact zq0_ok (fun _ _ _ => rfl) rfl h hL
  case i2l => exact zq0_ok (fun _ _ _ => rfl) rfl h hL
  case lastore => exact zq0_ok (fun _ _ _ => rfl) rfl h hL
  case imul => exact zq0_ok (fun _ _ _ => rfl) rfl h hL
  case dup2 => exact zq0_ok (fun _ _ _ => rfl) rfl h hL
  case irem => exact zq0_ok (fun _ _ _ => rfl) rfl h hL
  case athrow => exact zq0_ok (fun _ _ _ => rfl) rfl h hL
  case ishl => exact zq0_ok (fun _ _ _ => rfl) rfl h hL
  case baload => exact zq0_ok (fun _ _ _ => rfl) rfl h hL
  case iushr => exact zq0_ok (fun _ _ _ => rfl) rfl h hL
  case aastore => exact zq0_ok (fun _ _ _ => rfl) rfl h hL
  case aaload => exact zq0_ok (fun _ _ _ => rfl) rfl h hL
  case idiv => exact zq0_ok (fun _ _ _ => rfl) rfl h hL
  case i2b => exact zq0_ok (fun _ _ _ => rfl) rfl h hL
  case bastore => exact zq0_ok (fun _ _ _ => rfl) rfl h hL
  case areturn => exact zq0_ok (fun _ _ _ => rfl) rfl h hL
  case ixor => exact zq0_ok (fun _ _ _ => rfl) rfl h hL
  case arraylength => exact zq0_ok (fun _ _ _ => rfl) rfl h hL
  case ishr => exact zq0_ok (fun _ _ _ => rfl) rfl h hL
  case laload => exact zq0_ok (fun _ _ _ => rfl) rfl h hL
  case lcmp => exact zq0_ok (fun _ _ _ => rfl) rfl h hL
  case iload => exact zq1_ok (g := Instr.iload) (fun _ _ _ => rfl) rfl h hL
  case istore => exact zq1_ok (g := Instr.istore) (fun _ _ _ => rfl) rfl h hL
  case ldc => exact zq1_ok (g := Instr.ldc) (fun _ _ _ => rfl) rfl h hL
  case astore => exact zq1_ok (g := Instr.astore) (fun _ _ _ => rfl) rfl h hL
  case aload => exact zq1_ok (g := Instr.aload) (fun _ _ _ => rfl) rfl h hL
  case bipush => exact zqb_ok (g := Instr.bipush) (fun _ _ _ => rfl) rfl h hL
  case sipush => exact zqs_ok (g := Instr.sipush) (fun _ _ _ => rfl) rfl h hL
  case goto => exact zqs_ok (g := Instr.goto) (fun _ _ _ => rfl) rfl h hL
  case if_icmp c v => cases c <;> exact zqs_ok (g := Instr.if_icmp _) (fun _ _ _ => rfl) rfl h hL
  case ifCond c v => cases c <;> exact zqs_ok (g := Instr.ifCond _) (fun _ _ _ => rfl) rfl h hL
  case getfield => exact zq2_ok (g := Instr.getfield) (fun _ _ _ => rfl) rfl h hL
  case putfield => exact zq2_ok (g := Instr.putfield) (fun _ _ _ => rfl) rfl h hL
  case invokevirtual => exact zq2_ok (g := Instr.invokevirtual) (fun _ _ _ => rfl) rfl h hL
  case invokespecial => exact zq2_ok (g := Instr.invokespecial) (fun _ _ _ => rfl) rfl h hL
  case invokestatic => exact zq2_ok (g := Instr.invokestatic) (fun _ _ _ => rfl) rfl h hL
  case new => exact zq2_ok (g := Instr.new) (fun _ _ _ => rfl) rfl h hL
  case ldc_w => exact zq2_ok (g := Instr.ldc_w) (fun _ _ _ => rfl) rfl h hL
  case getstatic => exact zq2_ok (g := Instr.getstatic) (fun _ _ _ => rfl) rfl h hL
  case anewarray => exact zq2_ok (g := Instr.anewarray) (fun _ _ _ => rfl) rfl h hL
  case iinc => exact zqi_ok h hL
  all_goals exact absurd (show false = true from h) (by decide)
theorem zkw_ok : ∀ (l : List (Nat × Instr × Nat)) (p : Nat) (L : List UInt8), cc.data.toList.drop p = L → zkw l p L = true → ∀ e ∈ l, zslow e.2.1 = true ∨ (decode cc e.1 = .ok (e.2.1, e.2.2) ∧ zlen e.2.1 = e.2.2) := by
  intro l
  induction l with
  | nil => intro p L _ _ e he; exact absurd he List.not_mem_nil
  | cons a t ih =>
    intro p L hL h e he
    unfold zkw at h
    simp only [Bool.and_eq_true, Bool.or_eq_true, Nat.beq_eq] at h
    obtain ⟨⟨h1, h2⟩, h3⟩ := h
    rcases List.mem_cons.mp he with rfl | he
    · rcases h2 with h2 | h2
      · exact Or.inl h2
      · rw [h1]
        exact Or.inr (zck_ok hL h2)
    · refine ih _ _ ?_ h3 e he
      rw [h1, ← hL, List.drop_drop]
theorem zkall_w {l : List (Nat × Instr × Nat)} (h : zkw l 0 cc.data.toList = true) (hs : l.all (fun e => !zslow e.2.1 || (decide (decode cc e.1 = .ok (e.2.1, e.2.2)) && (zsw e.2.1 || zlen e.2.1 == e.2.2))) = true) : zkall cc l = true := by
  refine List.all_eq_true.mpr fun e he => ?_
  have s := List.all_eq_true.mp hs e he
  rcases zkw_ok l 0 _ rfl h e he with c | ⟨c1, c2⟩
  · rw [c] at s
    exact s
  · rw [Bool.and_eq_true, Bool.or_eq_true]
    exact ⟨decide_eq_true c1, Or.inr (beq_iff_eq.mpr c2)⟩
end ZDF
