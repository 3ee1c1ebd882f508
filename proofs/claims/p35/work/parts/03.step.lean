/-! A small machine over the tables: one step, and a run. Values bear numbers of objects in the place of addresses: below 1000 the objects made, from 1000 on rows that stand from the start. -/
noncomputable abbrev zLv : Type := List (Option Value)
noncomputable abbrev zMem : Type := List (Nat × Nat × List Nat) × (Nat → Nat → Int32) × (Nat → Nat → Int64) × Bool × Nat × Nat
noncomputable def zlen (i : Instr) : Nat := match i with
  | .iload _ | .aload _ | .istore _ | .astore _ | .bipush _ | .ldc _ | .newarray _ => 2
  | .sipush _ | .iinc _ _ | .goto _ | .if_icmp _ _ | .ifCond _ _ | .getfield _ | .putfield _ | .invokevirtual _ | .invokestatic _ | .invokespecial _ | .new _ | .getstatic _ | .anewarray _ | .ldc_w _ => 3
  | _ => 1
noncomputable def zsw (i : Instr) : Bool := match i with
  | .tableswitch _ _ _ _ | .lookupswitch _ _ => true
  | _ => false
noncomputable def zkall (cc : ByteArray) (l : List (Nat × Instr × Nat)) : Bool := l.all (fun e => decide (decode cc e.1 = .ok (e.2.1, e.2.2)) && (zsw e.2.1 || zlen e.2.1 == e.2.2))
theorem zkall_app {cc : ByteArray} {a b : List (Nat × Instr × Nat)} (ha : zkall cc a = true) (hb : zkall cc b = true) : zkall cc (a ++ b) = true := by
  unfold zkall at *
  rw [List.all_append, ha, hb]; rfl
noncomputable def ztg (pc : Nat) (off : Int) : Option Nat := if 0 ≤ (pc : Int) + off then some ((pc : Int) + off).toNat else none
noncomputable def zgo (pc : Nat) (off : Int) (lv : zLv) (st : List Value) : Option (Nat × zLv × List Value) := (ztg pc off).map (fun t => (t, lv, st))
noncomputable def zldI (lv : zLv) (k pc : Nat) (st : List Value) : Option (Nat × zLv × List Value) := match lv[k]? with
  | some (some (.int x)) => some (pc, lv, .int x :: st)
  | _ => none
noncomputable def zldA (lv : zLv) (k pc : Nat) (st : List Value) : Option (Nat × zLv × List Value) := match lv[k]? with
  | some (some (.ref x)) => some (pc, lv, .ref x :: st)
  | _ => none
noncomputable def zstI (lv : zLv) (k pc : Nat) (st : List Value) : Option (Nat × zLv × List Value) := match st with
  | .int x :: r => if k < lv.length then some (pc, lv.set k (some (.int x)), r) else none
  | _ => none
noncomputable def zstA (lv : zLv) (k pc : Nat) (st : List Value) : Option (Nat × zLv × List Value) := match st with
  | .ref x :: r => if k < lv.length then some (pc, lv.set k (some (.ref x)), r) else none
  | _ => none
noncomputable def z2 (f : Int32 → Int32 → Int32) (pc : Nat) (lv : zLv) (st : List Value) : Option (Nat × zLv × List Value) := match st with
  | .int y :: .int x :: r => some (pc + 1, lv, .int (f x y) :: r)
  | _ => none
noncomputable def z2d (f : Int32 → Int32 → Int32) (pc : Nat) (lv : zLv) (st : List Value) : Option (Nat × zLv × List Value) := match st with
  | .int y :: .int x :: r => if y = 0 then none else some (pc + 1, lv, .int (f x y) :: r)
  | _ => none
noncomputable def zbr (b : Bool) (pc : Nat) (off : Int) (lv : zLv) (st : List Value) : Option (Nat × zLv × List Value) := (ztg pc off).map (fun t => (bif b then t else pc + 3, lv, st))
noncomputable def zint (c idx : Nat) : Option Int32 := ((zip_ c).lookup idx).map (·.1)
noncomputable def zc1 (k : ClassFile.Cond) (x : Int32) : Bool := match k with
  | .eq => decide (x = 0)
  | .ne => decide (¬ x = 0)
  | .lt => decide (x < 0)
  | .ge => decide (0 ≤ x)
  | .gt => decide (0 < x)
  | .le => decide (x ≤ 0)
noncomputable def zc2 (k : ClassFile.Cond) (x y : Int32) : Bool := match k with
  | .eq => decide (x = y)
  | .ne => decide (¬ x = y)
  | .lt => decide (x < y)
  | .ge => decide (y ≤ x)
  | .gt => decide (y < x)
  | .le => decide (x ≤ y)
/-- what needs no memory -/
noncomputable def zP (c : Nat) (i : Instr) (pc : Nat) (lv : zLv) (st : List Value) : Option (Nat × zLv × List Value) := match i with
  | .iconst n => some (pc + 1, lv, .int (Int32.ofInt n) :: st)
  | .bipush n => some (pc + 2, lv, .int (Int8.ofInt n).toInt32 :: st)
  | .sipush n => some (pc + 3, lv, .int (Int16.ofInt n).toInt32 :: st)
  | .iload_n k => zldI lv k.val (pc + 1) st
  | .iload k => zldI lv k (pc + 2) st
  | .aload_n k => zldA lv k.val (pc + 1) st
  | .aload k => zldA lv k (pc + 2) st
  | .istore_n k => zstI lv k.val (pc + 1) st
  | .istore k => zstI lv k (pc + 2) st
  | .astore_n k => zstA lv k.val (pc + 1) st
  | .astore k => zstA lv k (pc + 2) st
  | .iinc k n => match lv[k]? with
    | some (some (.int x)) => some (pc + 3, lv.set k (some (.int (x + Int32.ofInt n))), st)
    | _ => none
  | .iadd => z2 (fun x y => x + y) pc lv st
  | .isub => z2 (fun x y => x - y) pc lv st
  | .imul => z2 (fun x y => x * y) pc lv st
  | .iand => z2 (fun x y => x &&& y) pc lv st
  | .ior => z2 (fun x y => x ||| y) pc lv st
  | .ixor => z2 (fun x y => x ^^^ y) pc lv st
  | .ishl => z2 (fun x y => x <<< (y &&& 31)) pc lv st
  | .ishr => z2 (fun x y => x >>> (y &&& 31)) pc lv st
  | .iushr => z2 (fun x y => (x.toUInt32 >>> (y.toUInt32 &&& Int32.toUInt32 31)).toInt32) pc lv st
  | .idiv => z2d (fun x y => x / y) pc lv st
  | .irem => z2d (fun x y => x - x / y * y) pc lv st
  | .i2l => match st with
    | .int x :: r => some (pc + 1, lv, .long x.toInt64 :: r)
    | _ => none
  | .i2b => match st with
    | .int x :: r => some (pc + 1, lv, .int x.toInt8.toInt32 :: r)
    | _ => none
  | .lcmp => match st with
    | .long y :: .long x :: r => some (pc + 1, lv, .int (lg_cmp x y) :: r)
    | _ => none
  | .dup => match st with
    | v :: r => if v.category = 1 then some (pc + 1, lv, v :: v :: r) else none
    | _ => none
  | .dup2 => match st with
    | v :: w :: r => if v.category = 1 ∧ w.category = 1 then some (pc + 1, lv, v :: w :: v :: w :: r) else none
    | _ => none
  | .pop => match st with
    | v :: r => if v.category = 1 then some (pc + 1, lv, r) else none
    | _ => none
  | .goto off => zgo pc off lv st
  | .ifCond k off => match st with
    | .int x :: r => zbr (zc1 k x) pc off lv r
    | _ => none
  | .if_icmp k off => match st with
    | .int y :: .int x :: r => zbr (zc2 k x y) pc off lv r
    | _ => none
  | .tableswitch dflt lo hi offs => match st with
    | .int x :: r => if x.toInt < lo ∨ hi < x.toInt then zgo pc dflt lv r else match offs[(x.toInt - lo).toNat]? with
      | some off => zgo pc off lv r
      | none => none
    | _ => none
  | .lookupswitch dflt ps => match st with
    | .int x :: r => if (ps.toList.zip (ps.toList.drop 1)).all (fun (a, next) => a.1 < next.1) = true then zgo pc (Op.lookupswitch.offset ps.toList dflt x.toInt) lv r else none
    | _ => none
  | .ldc idx => match zint c idx with
    | some v => some (pc + 2, lv, .int v :: st)
    | none => none
  | .ldc_w idx => match zint c idx with
    | some v => some (pc + 3, lv, .int v :: st)
    | none => none
  | _ => none
noncomputable abbrev zG : Type := va_G × (Nat → ClassId) × Nat × (Nat → Nat)
noncomputable def zad (G : zG) (i : Nat) : Nat := if i < 1000 then G.2.2.1 + i else G.2.2.2 (i - 1000)
noncomputable def zcv (G : zG) (v : Value) : Value := match v with
  | .ref i => .ref (zad G i)
  | v => v
noncomputable def zlv (G : zG) (lv : zLv) : List (Nat × Value) := (List.range lv.length).filterMap (fun j => match lv[j]? with
  | some (some v) => if v.category = 1 then some (j, zcv G v) else none
  | _ => none)
