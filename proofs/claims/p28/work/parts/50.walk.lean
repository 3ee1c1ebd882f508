/-! rules for walks that compute: nat numbers as ints, the memory behind the constructors -/
section ZWK
variable {σ : Nat → Nat × (Nat → Int32)} {d j pc : Nat} {lv : zLv} {r st : List Value} {M : zMem} {m : Nat → Nat → Int32} {y : (Nat → Nat → Int64) × Bool × Nat × Nat} {o : zO} {M' : zMem}
theorem zeKn {i : Instr} {len pc' c : Nat} {w : Int32} (hf : zfe j pc = some (i, len)) (hp : zP (j / 200) i pc lv st = some (pc', lv, .int w :: st)) (hv : w = Int32.ofNat c) (k : zEv σ d j pc' lv (.int (Int32.ofNat c) :: st) M o M') : zEv σ d j pc lv st M o M' := by
  subst hv
  exact zeP hf hp k
theorem zeK {i : Instr} {len pc' : Nat} {v w : Int32} (hf : zfe j pc = some (i, len)) (hp : zP (j / 200) i pc lv st = some (pc', lv, .int w :: st)) (hv : w = v) (k : zEv σ d j pc' lv (.int v :: st) M o M') : zEv σ d j pc lv st M o M' := by
  subst hv
  exact zeP hf hp k
theorem zeAdd {a b : Nat} (hf : zfe j pc = some (.iadd, 1)) (k : zEv σ d j (pc + 1) lv (.int (Int32.ofNat (a + b)) :: r) M o M') : zEv σ d j pc lv (.int (Int32.ofNat b) :: .int (Int32.ofNat a) :: r) M o M' := by
  rw [Int32.ofNat_add] at k
  exact zeP hf rfl k
theorem zeMul {a b : Nat} (hf : zfe j pc = some (.imul, 1)) (k : zEv σ d j (pc + 1) lv (.int (Int32.ofNat (a * b)) :: r) M o M') : zEv σ d j pc lv (.int (Int32.ofNat b) :: .int (Int32.ofNat a) :: r) M o M' := by
  rw [Int32.ofNat_mul] at k
  exact zeP hf rfl k
theorem zeInc {a k : Nat} (hf : zfe j pc = some (.iinc k 1, 3)) (hl : lv[k]? = some (some (.int (Int32.ofNat a)))) (kk : zEv σ d j (pc + 3) (lv.set k (some (.int (Int32.ofNat (a + 1))))) r M o M') : zEv σ d j pc lv r M o M' := by
  rw [Int32.ofNat_add] at kk
  refine zeP hf ?_ kk
  simp only [zP, hl]
  rfl
theorem zeB1 {k : ClassFile.Cond} {off : Int} {t : Nat} {x : Int32} (hf : zfe j pc = some (.ifCond k off, 3)) (ht : ztg pc off = some t) (kt : zc1 k x = true → zEv σ d j t lv st M o M') (kf : zc1 k x = false → zEv σ d j (pc + 3) lv st M o M') : zEv σ d j pc lv (.int x :: st) M o M' := by
  cases hb : zc1 k x with
  | true => exact zeP (pc' := t) hf (by simp only [zP, zbr, ht, hb, Option.map_some, cond_true]) (kt hb)
  | false => exact zeP (pc' := pc + 3) hf (by simp only [zP, zbr, ht, hb, Option.map_some, cond_false]) (kf hb)
theorem zeB2 {k : ClassFile.Cond} {off : Int} {t : Nat} {x y : Int32} (hf : zfe j pc = some (.if_icmp k off, 3)) (ht : ztg pc off = some t) (kt : zc2 k x y = true → zEv σ d j t lv st M o M') (kf : zc2 k x y = false → zEv σ d j (pc + 3) lv st M o M') : zEv σ d j pc lv (.int y :: .int x :: st) M o M' := by
  cases hb : zc2 k x y with
  | true => exact zeP (pc' := t) hf (by simp only [zP, zbr, ht, hb, Option.map_some, cond_true]) (kt hb)
  | false => exact zeP (pc' := pc + 3) hf (by simp only [zP, zbr, ht, hb, Option.map_some, cond_false]) (kf hb)
/-- a branch whose side is known -/
theorem zeT1 {k : ClassFile.Cond} {off : Int} {t : Nat} {x : Int32} (hf : zfe j pc = some (.ifCond k off, 3)) (ht : ztg pc off = some t) (hb : zc1 k x = true) (kt : zEv σ d j t lv st M o M') : zEv σ d j pc lv (.int x :: st) M o M' := zeB1 hf ht (fun _ => kt) (fun h => by rw [hb] at h; cases h)
theorem zeF1 {k : ClassFile.Cond} {off : Int} {t : Nat} {x : Int32} (hf : zfe j pc = some (.ifCond k off, 3)) (ht : ztg pc off = some t) (hb : zc1 k x = false) (kf : zEv σ d j (pc + 3) lv st M o M') : zEv σ d j pc lv (.int x :: st) M o M' := zeB1 hf ht (fun h => by rw [hb] at h; cases h) (fun _ => kf)
theorem zeT2 {k : ClassFile.Cond} {off : Int} {t : Nat} {x y : Int32} (hf : zfe j pc = some (.if_icmp k off, 3)) (ht : ztg pc off = some t) (hb : zc2 k x y = true) (kt : zEv σ d j t lv st M o M') : zEv σ d j pc lv (.int y :: .int x :: st) M o M' := zeB2 hf ht (fun _ => kt) (fun h => by rw [hb] at h; cases h)
theorem zeF2 {k : ClassFile.Cond} {off : Int} {t : Nat} {x y : Int32} (hf : zfe j pc = some (.if_icmp k off, 3)) (ht : ztg pc off = some t) (hb : zc2 k x y = false) (kf : zEv σ d j (pc + 3) lv st M o M') : zEv σ d j pc lv (.int y :: .int x :: st) M o M' := zeB2 hf ht (fun h => by rw [hb] at h; cases h) (fun _ => kf)
theorem zeRe {i : Instr} {len : Nat} {v : Option Value} (hf : zfe j pc = some (i, len)) (hp : zP (j / 200) i pc lv st = none) (hs : zS σ (j / 200) (zini j) i pc st M = none) (hr : zret j i st = some v) (ho : o = .inl v) (hM : M' = M) : zEv σ d j pc lv st M o M' := by
  subst ho hM
  exact zeR hf hp hs hr
theorem zeGI {S : List (Nat × Nat × List Nat)} {idx ci k pl a n t : Nat} {rs : List Nat} {f : Bool} (hf : zfe j pc = some (.getfield idx, 3)) (hl : (zfp (j / 200)).lookup idx = some (ci, k, pl)) (hS : S[a]? = some (ci, n, rs)) (ht : (zft ci)[k]? = some (t, f)) (h2 : Nat.beq t 2 = false) (kk : zEv σ d j (pc + 3) lv (.int (m a k) :: r) (S, m, y) o M') : zEv σ d j pc lv (.ref a :: r) (S, m, y) o M' := by
  refine zeS hf rfl ?_ kk
  simp only [zS, zgetf, hl, hS, beq_self_eq_true, cond_true, ht]
  split
  · rename_i h; cases h; cases h2
  · rfl
  · rename_i h; cases h
theorem zeGR {S : List (Nat × Nat × List Nat)} {idx ci k pl a n b : Nat} {rs : List Nat} {f : Bool} (hf : zfe j pc = some (.getfield idx, 3)) (hl : (zfp (j / 200)).lookup idx = some (ci, k, pl)) (hS : S[a]? = some (ci, n, rs)) (ht : (zft ci)[k]? = some (2, f)) (hb : zrv rs k = some b) (kk : zEv σ d j (pc + 3) lv (.ref b :: r) (S, m, y) o M') : zEv σ d j pc lv (.ref a :: r) (S, m, y) o M' := by
  refine zeS hf rfl ?_ kk
  simp only [zS, zgetf, hl, hS, beq_self_eq_true, cond_true, ht, hb]
theorem zePI {S : List (Nat × Nat × List Nat)} {idx ci k pl a n : Nat} {rs : List Nat} {x : Int32} (hf : zfe j pc = some (.putfield idx, 3)) (hl : (zfp (j / 200)).lookup idx = some (ci, k, pl)) (hS : S[a]? = some (ci, n, rs)) (ht : (zft ci)[k]? = some (0, false)) (kk : zEv σ d j (pc + 3) lv r (S, zm2 m a k x, y) o M') : zEv σ d j pc lv (.int x :: .ref a :: r) (S, m, y) o M' := by
  refine zeS hf rfl ?_ kk
  simp only [zS, zputf, hl, hS, beq_self_eq_true, cond_true, ht]
theorem zePB {S : List (Nat × Nat × List Nat)} {idx ci k pl a n : Nat} {rs : List Nat} {x : Int32} (hf : zfe j pc = some (.putfield idx, 3)) (hl : (zfp (j / 200)).lookup idx = some (ci, k, pl)) (hS : S[a]? = some (ci, n, rs)) (ht : (zft ci)[k]? = some (1, false)) (hx : x = 0 ∨ x = 1) (kk : zEv σ d j (pc + 3) lv r (S, zm2 m a k x, y) o M') : zEv σ d j pc lv (.int x :: .ref a :: r) (S, m, y) o M' := by
  refine zeS hf rfl ?_ kk
  simp only [zS, zputf, hl, hS, beq_self_eq_true, cond_true, ht, if_pos hx]
theorem zinB {k n : Nat} (h : k < n) (hn : n ≤ 2000) : zoutB (Int32.ofNat k) n = false := by
  have h31 : k < 2 ^ 31 := Nat.lt_of_lt_of_le h (Nat.le_trans hn (by decide))
  unfold zoutB
  rw [Bool.or_eq_false_iff]
  constructor
  · apply decide_eq_false
    rw [Int32.lt_iff_toInt_lt, Int32.toInt_zero, Int32.toInt_ofNat_of_lt h31]
    omega
  · apply decide_eq_false
    rw [Int32.toNatClampNeg_ofNat_of_lt h31]
    omega
theorem zcl {k n : Nat} (h : k < n) (hn : n ≤ 2000) : (Int32.ofNat k).toNatClampNeg = k := Int32.toNatClampNeg_ofNat_of_lt (Nat.lt_of_lt_of_le h (Nat.le_trans hn (by decide)))
theorem zeAL {S : List (Nat × Nat × List Nat)} {a n k : Nat} {rs : List Nat} (hf : zfe j pc = some (.iaload, 1)) (ha : Nat.blt a 1000 = true) (hS : S[a]? = some (10, n, rs)) (hn : Nat.ble n 2000 = true) (hk : k < n) (kk : zEv σ d j (pc + 1) lv (.int (m a k) :: r) (S, m, y) o M') : zEv σ d j pc lv (.int (Int32.ofNat k) :: .ref a :: r) (S, m, y) o M' := by
  refine zeS hf rfl ?_ kk
  simp only [zS, ziald, ha, cond_true, hS, beq_self_eq_true, zinB hk (Nat.le_of_ble_eq_true hn), zcl hk (Nat.le_of_ble_eq_true hn), Bool.not_false, Bool.and_self]
theorem zeAS {S : List (Nat × Nat × List Nat)} {a n k : Nat} {rs : List Nat} {x : Int32} (hf : zfe j pc = some (.iastore, 1)) (hS : S[a]? = some (10, n, rs)) (hn : Nat.ble n 2000 = true) (hk : k < n) (kk : zEv σ d j (pc + 1) lv r (S, zm2 m a k x, y) o M') : zEv σ d j pc lv (.int x :: .int (Int32.ofNat k) :: .ref a :: r) (S, m, y) o M' := by
  refine zeS hf rfl ?_ kk
  simp only [zS, ziast, hS, beq_self_eq_true, zinB hk (Nat.le_of_ble_eq_true hn), zcl hk (Nat.le_of_ble_eq_true hn), Bool.not_false, Bool.and_self, cond_true]
end ZWK
/-- a call's contract, from a height on -/
def zF (σ : Nat → Nat × (Nat → Int32)) (h j : Nat) (as : List Value) (M : zMem) (o : zO) (M' : zMem) : Prop := ∀ d, h ≤ d → zCal σ d j as M o M'
section ZWF
variable {σ : Nat → Nat × (Nat → Int32)} {d j pc : Nat} {lv : zLv} {st : List Value} {M : zMem} {o : zO} {M' : zMem}
theorem zeCF {i : Instr} {len j' h : Nat} {as rest : List Value} {v : Option Value} {M1 : zMem} (hf : zfe j pc = some (i, len)) (hp : zP (j / 200) i pc lv st = none) (hs : zS σ (j / 200) (zini j) i pc st M = none) (hr : zret j i st = none) (ht : zthr j pc = none) (hc : zcall (j / 200) i st M = some (j', as, rest)) (h1 : zF σ h j' as M (.inl v) M1) (hh : h ≤ d) (k : zEv σ (d + 1) j (pc + 3) lv (v.toList ++ rest) M1 o M') : zEv σ (d + 1) j pc lv st M o M' := zeC hf hp hs hr ht hc (h1 d hh) k
theorem zF.up {h h' : Nat} {as : List Value} (hF : zF σ h j as M o M') (hh : h ≤ h') : zF σ h' j as M o M' := fun d hd => hF d (Nat.le_trans hh hd)
end ZWF
/-- a row of the memory put in its place -/
def zrow (m : Nat → Nat → Int32) (a : Nat) (w : Nat → Int32) : Nat → Nat → Int32 := fun i => if i = a then w else m i
theorem zrow_at (m : Nat → Nat → Int32) (a : Nat) (w : Nat → Int32) : zrow m a w a = w := if_pos rfl
theorem zrow_self (m : Nat → Nat → Int32) (a : Nat) : zrow m a (m a) = m := by
  funext i
  unfold zrow
  by_cases h : i = a
  · rw [if_pos h, h]
  · rw [if_neg h]
theorem zrow_row (m : Nat → Nat → Int32) (a : Nat) (w w' : Nat → Int32) : zrow (zrow m a w) a w' = zrow m a w' := by
  funext i
  unfold zrow
  by_cases h : i = a
  · rw [if_pos h, if_pos h]
  · rw [if_neg h, if_neg h, if_neg h]
theorem zm2_row (m : Nat → Nat → Int32) (a k : Nat) (w : Nat → Int32) (x : Int32) : zm2 (zrow m a w) a k x = zrow m a (upd w k x) := by
  have h : zm2 (zrow m a w) a k x = zrow (zrow m a w) a (upd (zrow m a w a) k x) := rfl
  rw [h, zrow_row, zrow_at]
theorem zm2_com (m : Nat → Nat → Int32) (a b k : Nat) (w : Nat → Int32) (x : Int32) (hab : b ≠ a) : zm2 (zrow m a w) b k x = zrow (zm2 m b k x) a w := by
  funext i
  unfold zm2 zrow
  by_cases h : i = b
  · subst h
    rw [if_pos rfl, if_neg hab, if_neg hab]
    show upd (m i) k x = if i = i then upd (m i) k x else m i
    rw [if_pos rfl]
  · rw [if_neg h]
    by_cases h2 : i = a
    · rw [if_pos h2, if_pos h2]
    · rw [if_neg h2, if_neg h2]
      show m i = if i = b then upd (m b) k x else m i
      rw [if_neg h]
theorem zS137 : zS1[137]? = some (9, 0, [0, 139, 140, 141, 0, 0, 142, 0, 0, 0, 0, 0, 143, 144, 145, 146, 0]) := rfl
theorem zS138 : zS1[138]? = some (10, 788, []) := rfl
section ZWL
variable {σ : Nat → Nat × (Nat → Int32)} {d j pc : Nat} {lv : zLv} {r st : List Value} {m : Nat → Nat → Int32} {W : Nat → Int32} {y : (Nat → Nat → Int64) × Bool × Nat × Nat} {o : zO} {M M' : zMem}
theorem zeWL {k : Nat} (hf : zfe j pc = some (.iaload, 1)) (hk : k < 788) (kk : zEv σ d j (pc + 1) lv (.int (W k) :: r) (zS1, zrow m 138 W, y) o M') : zEv σ d j pc lv (.int (Int32.ofNat k) :: .ref 138 :: r) (zS1, zrow m 138 W, y) o M' := by
  have e : zrow m 138 W 138 k = W k := by rw [zrow_at]
  refine zeAL hf rfl zS138 rfl hk ?_
  rw [e]
  exact kk
theorem zeWS {k : Nat} {x : Int32} (hf : zfe j pc = some (.iastore, 1)) (hk : k < 788) (kk : zEv σ d j (pc + 1) lv r (zS1, zrow m 138 (upd W k x), y) o M') : zEv σ d j pc lv (.int x :: .int (Int32.ofNat k) :: .ref 138 :: r) (zS1, zrow m 138 W, y) o M' := by
  refine zeAS hf zS138 rfl hk ?_
  rw [zm2_row]
  exact kk
theorem zrow_137 (k : Nat) : zrow m 138 W 137 k = m 137 k := by
  unfold zrow
  rw [if_neg (by decide)]
theorem zeFI {idx k pl t : Nat} {f : Bool} (hf : zfe j pc = some (.getfield idx, 3)) (hl : (zfp (j / 200)).lookup idx = some (9, k, pl)) (ht : (zft 9)[k]? = some (t, f)) (h2 : Nat.beq t 2 = false) (kk : zEv σ d j (pc + 3) lv (.int (m 137 k) :: r) (zS1, zrow m 138 W, y) o M') : zEv σ d j pc lv (.ref 137 :: r) (zS1, zrow m 138 W, y) o M' := by
  refine zeGI hf hl zS137 ht h2 ?_
  rw [zrow_137]
  exact kk
theorem zeFP {idx k pl : Nat} {x : Int32} (hf : zfe j pc = some (.putfield idx, 3)) (hl : (zfp (j / 200)).lookup idx = some (9, k, pl)) (ht : (zft 9)[k]? = some (0, false)) (kk : zEv σ d j (pc + 3) lv r (zS1, zrow (zm2 m 137 k x) 138 W, y) o M') : zEv σ d j pc lv (.int x :: .ref 137 :: r) (zS1, zrow m 138 W, y) o M' := by
  refine zePI hf hl zS137 ht ?_
  rw [zm2_com _ _ _ _ _ _ (by decide)]
  exact kk
theorem zeFB {idx k pl : Nat} {x : Int32} (hf : zfe j pc = some (.putfield idx, 3)) (hl : (zfp (j / 200)).lookup idx = some (9, k, pl)) (ht : (zft 9)[k]? = some (1, false)) (hx : x = 0 ∨ x = 1) (kk : zEv σ d j (pc + 3) lv r (zS1, zrow (zm2 m 137 k x) 138 W, y) o M') : zEv σ d j pc lv (.int x :: .ref 137 :: r) (zS1, zrow m 138 W, y) o M' := by
  refine zePB hf hl zS137 ht hx ?_
  rw [zm2_com _ _ _ _ _ _ (by decide)]
  exact kk
theorem zeDiv {a b : Int32} (hf : zfe j pc = some (.idiv, 1)) (hb : ¬ b = 0) (kk : zEv σ d j (pc + 1) lv (.int (a / b) :: r) M o M') : zEv σ d j pc lv (.int b :: .int a :: r) M o M' := by
  refine zeP hf ?_ kk
  simp only [zP, z2d, if_neg hb]
theorem zeRem {a b : Int32} (hf : zfe j pc = some (.irem, 1)) (hb : ¬ b = 0) (kk : zEv σ d j (pc + 1) lv (.int (a - a / b * b) :: r) M o M') : zEv σ d j pc lv (.int b :: .int a :: r) M o M' := by
  refine zeP hf ?_ kk
  simp only [zP, z2d, if_neg hb]
end ZWL
theorem zretB {j : Nat} {q : zMt} {b : Int32} (hj : zent j = some q) (hq : q.2.2.2.1 = some .boolean) (hb : b = 0 ∨ b = 1) : zret j .ireturn [.int b] = some (some (.int b)) := by
  unfold zret
  simp only [hj, hq, if_pos hb]
theorem zoN {a : Nat} (h : a < 2147483648) : (Int32.ofNat a).toInt = a := Int32.toInt_ofNat_of_lt h
theorem zcge {a b : Nat} (ha : a < 2147483648) (hb : b < 2147483648) (h : b ≤ a) : zc2 .ge (Int32.ofNat a) (Int32.ofNat b) = true := by
  apply decide_eq_true
  rw [Int32.le_iff_toInt_le, zoN ha, zoN hb]
  omega
theorem zcge_f {a b : Nat} (ha : a < 2147483648) (hb : b < 2147483648) (h : a < b) : zc2 .ge (Int32.ofNat a) (Int32.ofNat b) = false := by
  apply decide_eq_false
  rw [Int32.le_iff_toInt_le, zoN ha, zoN hb]
  omega
/-- the nat number that a cell holds -/
def nv (W : Nat → Int32) (k : Nat) : Nat := (W k).toNatClampNeg
theorem upd_at (W : Nat → Int32) (k : Nat) (x : Int32) : upd W k x k = x := if_pos rfl
theorem upd_ne (W : Nat → Int32) {k l : Nat} (x : Int32) (h : l ≠ k) : upd W k x l = W l := if_neg h
