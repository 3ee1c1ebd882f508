/-! memory steps over an explicit memory -/
section ZMR
variable {σ : Nat → Nat × (Nat → Int32)} {d j pc : Nat} {lv : zLv} {r : List Value} {S : List (Nat × Nat × List Nat)} {m : Nat → Nat → Int32} {lf : Nat → Nat → Int64} {z : Bool × Nat × Nat} {P : zO → zMem → Prop}
theorem zmGI {idx ci k pl a n t : Nat} {rs : List Nat} {f : Bool} (hf : zfe j pc = some (.getfield idx, 3)) (hl : (zfp (j / 200)).lookup idx = some (ci, k, pl)) (hS : S[a]? = some (ci, n, rs)) (ht : (zft ci)[k]? = some (t, f)) (h2 : t ≠ 2) (kk : zW σ d j (pc + 3) lv (.int (m a k) :: r) (S, m, lf, z) P) : zW σ d j pc lv (.ref a :: r) (S, m, lf, z) P := by
  refine zwS hf rfl ?_ kk
  simp only [zS, zgetf, hl, hS, beq_self_eq_true, cond_true, ht]
  split
  · rename_i h; cases h; exact absurd rfl h2
  · rfl
  · rename_i h; cases h
theorem zmGR {idx ci k pl a n b : Nat} {rs : List Nat} {f : Bool} (hf : zfe j pc = some (.getfield idx, 3)) (hl : (zfp (j / 200)).lookup idx = some (ci, k, pl)) (hS : S[a]? = some (ci, n, rs)) (ht : (zft ci)[k]? = some (2, f)) (hb : zrv rs k = some b) (kk : zW σ d j (pc + 3) lv (.ref b :: r) (S, m, lf, z) P) : zW σ d j pc lv (.ref a :: r) (S, m, lf, z) P := by
  refine zwS hf rfl ?_ kk
  simp only [zS, zgetf, hl, hS, beq_self_eq_true, cond_true, ht, hb]
theorem zmPI {idx ci k pl a n : Nat} {rs : List Nat} {x : Int32} (hf : zfe j pc = some (.putfield idx, 3)) (hl : (zfp (j / 200)).lookup idx = some (ci, k, pl)) (hS : S[a]? = some (ci, n, rs)) (ht : (zft ci)[k]? = some (0, false)) (kk : zW σ d j (pc + 3) lv r (S, zm2 m a k x, lf, z) P) : zW σ d j pc lv (.int x :: .ref a :: r) (S, m, lf, z) P := by
  refine zwS hf rfl ?_ kk
  simp only [zS, zputf, hl, hS, beq_self_eq_true, cond_true, ht]
theorem zmPB {idx ci k pl a n : Nat} {rs : List Nat} {x : Int32} (hf : zfe j pc = some (.putfield idx, 3)) (hl : (zfp (j / 200)).lookup idx = some (ci, k, pl)) (hS : S[a]? = some (ci, n, rs)) (ht : (zft ci)[k]? = some (1, false)) (hx : x = 0 ∨ x = 1) (kk : zW σ d j (pc + 3) lv r (S, zm2 m a k x, lf, z) P) : zW σ d j pc lv (.int x :: .ref a :: r) (S, m, lf, z) P := by
  refine zwS hf rfl ?_ kk
  simp only [zS, zputf, hl, hS, beq_self_eq_true, cond_true, ht, if_pos hx]
theorem zmAL {a n k : Nat} {rs : List Nat} {i : Int32} (hf : zfe j pc = some (.iaload, 1)) (ha : Nat.blt a 1000 = true) (hS : S[a]? = some (10, n, rs)) (hi : zoutB i n = false) (hk : i.toNatClampNeg = k) (kk : zW σ d j (pc + 1) lv (.int (m a k) :: r) (S, m, lf, z) P) : zW σ d j pc lv (.int i :: .ref a :: r) (S, m, lf, z) P := by
  subst hk
  refine zwS hf rfl ?_ kk
  simp only [zS, ziald, ha, cond_true, hS, beq_self_eq_true, hi, Bool.not_false, Bool.and_self]
theorem zmAS {a n k : Nat} {rs : List Nat} {i x : Int32} (hf : zfe j pc = some (.iastore, 1)) (hS : S[a]? = some (10, n, rs)) (hi : zoutB i n = false) (hk : i.toNatClampNeg = k) (kk : zW σ d j (pc + 1) lv r (S, zm2 m a k x, lf, z) P) : zW σ d j pc lv (.int x :: .int i :: .ref a :: r) (S, m, lf, z) P := by
  subst hk
  refine zwS hf rfl ?_ kk
  simp only [zS, ziast, hS, beq_self_eq_true, hi, Bool.not_false, Bool.and_self, cond_true]
theorem zmRL {a n b : Nat} {kd : Nat} {rs : List Nat} {i : Int32} (hf : zfe j pc = some (.aaload, 1)) (hS : S[a]? = some (kd, n, rs)) (hkd : (kd == 12 || kd == 13) = true) (hi : zoutB i n = false) (hb : zrv rs i.toNatClampNeg = some b) (kk : zW σ d j (pc + 1) lv (.ref b :: r) (S, m, lf, z) P) : zW σ d j pc lv (.int i :: .ref a :: r) (S, m, lf, z) P := by
  refine zwS hf rfl ?_ kk
  simp only [zS, zaald, hS, hkd, hi, Bool.not_false, Bool.and_self, cond_true, hb]
end ZMR
