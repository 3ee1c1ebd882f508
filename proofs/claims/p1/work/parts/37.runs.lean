/-! the law's one round, by the kernel (written by program: wip/p1/gen37.py) -/
def zigs : List (Nat × Nat × Nat) := zig_0 ++ zig_1 ++ zig_2 ++ zig_3 ++ zig_4 ++ zig_5 ++ zig_6
def zycov (i k : Nat) : Bool := zigs.any (fun e => Nat.beq e.1 i && Nat.ble e.2.1 k && Nat.blt k (e.2.1 + e.2.2))
def zyY0 (i k : Nat) : zyV := bif zycov i k then .inl (.int (zmv i k)) else .inr none
def zyA0 : zyM := (zS1, zyY0, fun _ _ => none, true, 147, 7775)
def zyt (L : Nat) : Nat → Nat × (Nat → zyV) := fun n => match n with
  | 0 => (L, fun k => bif Nat.blt k 6 then .inr (some k) else .inr none)
  | n + 1 => ((zla n).length, fun k => .inl (.int ((zla n).getD k 0)))
def zyl0 : zyLv := [some (.inl (.ref 1000)), some (.inl (.ref 0)), some (.inl (.ref 137)), some (.inl (.ref 146)), some (.inl (.int 0)), none, none]
def zyok1 (q : zyE × zyO × zyM) : Bool := (match q.2.1 with
  | .inl (some (.inl (.int x))) => decide (x = 1)
  | _ => false) && Nat.ble q.2.2.2.2.2.2.1 200 && Nat.ble q.2.2.2.2.2.2.2 8000
def zyok (r : Option (List (zyE × zyO × zyM))) : Bool := match r with
  | some l => l.all zyok1
  | none => false
def zyq (lo hi : Nat) : Bool := zyok (zyrun (zyt 6) 3000 [(6, Int.ofNat lo, Int.ofNat hi)] 20 2024 40 zyl0 [.inr (some 6)] zyA0)
def zyq0 (L : Nat) : Bool := zyok (zyrun (zyt L) 100 [] 20 2024 23 zyl0 [] zyA0)
theorem zyq0_0 : zyq0 0 = true := by decide +kernel
theorem zyq0_1 : zyq0 1 = true := by decide +kernel
theorem zyq0_2 : zyq0 2 = true := by decide +kernel
theorem zyq0_3 : zyq0 3 = true := by decide +kernel
theorem zyq0_4 : zyq0 4 = true := by decide +kernel
theorem zyq0_5 : zyq0 5 = true := by decide +kernel
theorem zyq_d : zyq 34 63 = true := by decide +kernel
theorem zyq_1 : zyq 1 1 = true := by decide +kernel
theorem zyq_2 : zyq 2 2 = true := by decide +kernel
theorem zyq_3 : zyq 3 3 = true := by decide +kernel
theorem zyq_4 : zyq 4 4 = true := by decide +kernel
theorem zyq_5 : zyq 5 5 = true := by decide +kernel
theorem zyq_6 : zyq 6 6 = true := by decide +kernel
theorem zyq_7 : zyq 7 7 = true := by decide +kernel
theorem zyq_9 : zyq 9 9 = true := by decide +kernel
theorem zyq_11 : zyq 11 11 = true := by decide +kernel
theorem zyq_12 : zyq 12 12 = true := by decide +kernel
theorem zyq_13 : zyq 13 13 = true := by decide +kernel
theorem zyq_14 : zyq 14 14 = true := by decide +kernel
theorem zyq_15 : zyq 15 15 = true := by decide +kernel
theorem zyq_18 : zyq 18 18 = true := by decide +kernel
theorem zyq_19 : zyq 19 19 = true := by decide +kernel
theorem zyq_21 : zyq 21 21 = true := by decide +kernel
theorem zyq_22 : zyq 22 22 = true := by decide +kernel
theorem zyq_23 : zyq 23 23 = true := by decide +kernel
theorem zyq_24 : zyq 24 24 = true := by decide +kernel
theorem zyq_25 : zyq 25 25 = true := by decide +kernel
theorem zyq_27 : zyq 27 27 = true := by decide +kernel
theorem zyq_28 : zyq 28 28 = true := by decide +kernel
theorem zyq_29 : zyq 29 29 = true := by decide +kernel
theorem zyq_30 : zyq 30 30 = true := by decide +kernel
theorem zyq_31 : zyq 31 31 = true := by decide +kernel
theorem zyq_32 : zyq 32 32 = true := by decide +kernel
theorem zyq_33 : zyq 33 33 = true := by decide +kernel
