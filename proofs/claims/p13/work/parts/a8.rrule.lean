/-! rules: the reference's other rows -/
section ZRR
variable {σ : Nat → Nat × (Nat → Int32)} {d j pc : Nat} {lv : zLv} {r st : List Value} {m : Nat → Nat → Int32} {W : Nat → Int32} {y : (Nat → Nat → Int64) × Bool × Nat × Nat} {o : zO} {M M' : zMem}
theorem zrow_o {a b : Nat} (h : b ≠ a) : zrow m a W b = m b := if_neg h
theorem zeQL {a n k : Nat} {rs : List Nat} (hf : zfe j pc = some (.iaload, 1)) (ha : Nat.blt a 1000 = true) (h8 : a ≠ 138) (hS : zS1[a]? = some (10, n, rs)) (hn : Nat.ble n 2000 = true) (hk : k < n) (kk : zEv σ d j (pc + 1) lv (.int (m a k) :: r) (zS1, zrow m 138 W, y) o M') : zEv σ d j pc lv (.int (Int32.ofNat k) :: .ref a :: r) (zS1, zrow m 138 W, y) o M' := by
  refine zeAL hf ha hS hn hk ?_
  rw [zrow_o h8]
  exact kk
theorem zeQS {a n k : Nat} {rs : List Nat} {x : Int32} (hf : zfe j pc = some (.iastore, 1)) (h8 : a ≠ 138) (hS : zS1[a]? = some (10, n, rs)) (hn : Nat.ble n 2000 = true) (hk : k < n) (kk : zEv σ d j (pc + 1) lv r (zS1, zrow (zm2 m a k x) 138 W, y) o M') : zEv σ d j pc lv (.int x :: .int (Int32.ofNat k) :: .ref a :: r) (zS1, zrow m 138 W, y) o M' := by
  refine zeAS hf hS hn hk ?_
  rw [zm2_com _ _ _ _ _ _ h8]
  exact kk
theorem zeQBL {a n k : Nat} {rs : List Nat} (hf : zfe j pc = some (.baload, 1)) (h8 : a ≠ 138) (hS : zS1[a]? = some (11, n, rs)) (hn : Nat.ble n 2000 = true) (hk : k < n) (kk : zEv σ d j (pc + 1) lv (.int (m a k) :: r) (zS1, zrow m 138 W, y) o M') : zEv σ d j pc lv (.int (Int32.ofNat k) :: .ref a :: r) (zS1, zrow m 138 W, y) o M' := by
  refine zeBL hf hS hn hk ?_
  rw [zrow_o h8]
  exact kk
theorem zeQBS {a n k : Nat} {rs : List Nat} {x : Int32} (hf : zfe j pc = some (.bastore, 1)) (h8 : a ≠ 138) (hS : zS1[a]? = some (11, n, rs)) (hn : Nat.ble n 2000 = true) (hk : k < n) (kk : zEv σ d j (pc + 1) lv r (zS1, zrow (zm2 m a k (vp_nar .byte x)) 138 W, y) o M') : zEv σ d j pc lv (.int x :: .int (Int32.ofNat k) :: .ref a :: r) (zS1, zrow m 138 W, y) o M' := by
  refine zeBS hf hS hn hk ?_
  rw [zm2_com _ _ _ _ _ _ h8]
  exact kk
end ZRR
theorem zm2_a (m : Nat → Nat → Int32) (a k : Nat) (x : Int32) : zm2 m a k x a k = x := by
  unfold zm2
  rw [if_pos rfl]
  exact upd_at _ _ _
theorem zm2_k (m : Nat → Nat → Int32) {a k l : Nat} (x : Int32) (h : l ≠ k) : zm2 m a k x a l = m a l := by
  unfold zm2
  rw [if_pos rfl]
  exact upd_ne _ _ h
theorem zm2_i (m : Nat → Nat → Int32) {a k i : Nat} (x : Int32) (h : i ≠ a) : zm2 m a k x i = m i := if_neg h
theorem zdiv4 {k : Nat} (h : k < 20) : Int32.ofNat k / Int32.ofNat 4 = Int32.ofNat (k / 4) := by
  have e : ∀ k, k < 20 → Int32.ofNat k / Int32.ofNat 4 = Int32.ofNat (k / 4) := by decide
  exact e k h
theorem zrem4 {k : Nat} (h : k < 20) : Int32.ofNat k - Int32.ofNat k / Int32.ofNat 4 * Int32.ofNat 4 = Int32.ofNat (k % 4) := by
  have e : ∀ k, k < 20 → Int32.ofNat k - Int32.ofNat k / Int32.ofNat 4 * Int32.ofNat 4 = Int32.ofNat (k % 4) := by decide
  exact e k h
noncomputable def tp (m : Nat → Nat → Int32) : Nat := (m 137 7).toNatClampNeg
