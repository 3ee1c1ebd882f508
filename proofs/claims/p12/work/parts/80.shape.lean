theorem zret_none {j : Nat} {i : Instr} {w : List Value} (h1 : i ≠ .ireturn) (h2 : i ≠ .areturn) (h3 : i ≠ .return_) : zret j i w = none := by
  unfold zret
  cases zent j with
  | none => rfl
  | some q =>
    cases i
    case ireturn => exact absurd rfl h1
    case areturn => exact absurd rfl h2
    case return_ => exact absurd rfl h3
    all_goals rfl
/-! the class's machines: what lies where (base b, thread t, lock l) -/
noncomputable def BB (b : Nat) : Prop := b = 1 ∨ b = 43 ∨ b = 85
theorem BB.all {P : Nat → Prop} (h1 : P 1) (h2 : P 43) (h3 : P 85) {b : Nat} (hb : BB b) : P b := by
  rcases hb with rfl | rfl | rfl
  · exact h1
  · exact h2
  · exact h3
theorem shM {b : Nat} (hb : BB b) : zS1[b]? = some (3, 0, [b + 2, b + 3, b + 4, b + 5, b + 10, 0, 0, 0, 0, 0, b + 39, b + 40, 0, b + 41]) := BB.all (P := fun b => zS1[b]? = some (3, 0, [b + 2, b + 3, b + 4, b + 5, b + 10, 0, 0, 0, 0, 0, b + 39, b + 40, 0, b + 41])) (by decide +kernel) (by decide +kernel) (by decide +kernel) hb
theorem shW {b : Nat} (hb : BB b) : zS1[b + 1]? = some (10, 32, []) := BB.all (P := fun b => zS1[b + 1]? = some (10, 32, [])) rfl rfl rfl hb
theorem shT {b : Nat} (hb : BB b) : zS1[b + 2]? = some (10, 32, []) := BB.all (P := fun b => zS1[b + 2]? = some (10, 32, [])) rfl rfl rfl hb
theorem shE {b : Nat} (hb : BB b) : zS1[b + 3]? = some (10, 9, []) := BB.all (P := fun b => zS1[b + 3]? = some (10, 9, [])) rfl rfl rfl hb
theorem shLA {b : Nat} (hb : BB b) : zS1[b + 4]? = some (12, 4, [b + 6, b + 7, b + 8, b + 9]) := BB.all (P := fun b => zS1[b + 4]? = some (12, 4, [b + 6, b + 7, b + 8, b + 9])) rfl rfl rfl hb
theorem shSA {b : Nat} (hb : BB b) : zS1[b + 9]? = some (13, 4, [b + 11, b + 18, b + 25, b + 32]) := BB.all (P := fun b => zS1[b + 9]? = some (13, 4, [b + 11, b + 18, b + 25, b + 32])) rfl rfl rfl hb
theorem shOT {b : Nat} (hb : BB b) : zS1[b + 38]? = some (10, 20, []) := BB.all (P := fun b => zS1[b + 38]? = some (10, 20, [])) rfl rfl rfl hb
theorem shOS {b : Nat} (hb : BB b) : zS1[b + 39]? = some (10, 20, []) := BB.all (P := fun b => zS1[b + 39]? = some (10, 20, [])) rfl rfl rfl hb
theorem shLG {b : Nat} (hb : BB b) : zS1[b + 40]? = some (2, 0, [b + 42, 0, 0]) := BB.all (P := fun b => zS1[b + 40]? = some (2, 0, [b + 42, 0, 0])) rfl rfl rfl hb
theorem shC {b : Nat} (hb : BB b) : zS1[b + 41]? = some (10, 240, []) := BB.all (P := fun b => zS1[b + 41]? = some (10, 240, [])) rfl rfl rfl hb
theorem lt4 {P : Nat → Prop} (h0 : P 0) (h1 : P 1) (h2 : P 2) (h3 : P 3) {t : Nat} (ht : t < 4) : P t := by
  match t, ht with
  | 0, _ => exact h0
  | 1, _ => exact h1
  | 2, _ => exact h2
  | 3, _ => exact h3
theorem shL {b l : Nat} (hb : BB b) (hl : l < 4) : zS1[b + 5 + l]? = some (1, 0, [0, 0, 0, 0]) := BB.all (P := fun b => zS1[b + 5 + l]? = some (1, 0, [0, 0, 0, 0])) (lt4 (P := fun l => zS1[1 + 5 + l]? = some (1, 0, [0, 0, 0, 0])) rfl rfl rfl rfl hl) (lt4 (P := fun l => zS1[43 + 5 + l]? = some (1, 0, [0, 0, 0, 0])) rfl rfl rfl rfl hl) (lt4 (P := fun l => zS1[85 + 5 + l]? = some (1, 0, [0, 0, 0, 0])) rfl rfl rfl rfl hl) hb
theorem bbt {P : Nat → Nat → Prop} (h1 : ∀ t, t < 4 → P 1 t) (h2 : ∀ t, t < 4 → P 43 t) (h3 : ∀ t, t < 4 → P 85 t) {b t : Nat} (hb : BB b) (ht : t < 4) : P b t := BB.all (P := fun b => P b t) (h1 t ht) (h2 t ht) (h3 t ht) hb
theorem shS {b t : Nat} (hb : BB b) (ht : t < 4) : zS1[b + 10 + 7 * t]? = some (6, 0, [b + 11 + 7 * t + 1, b + 12 + 7 * t + 1, 0, 0, 0, 0, 0, 0, b + 13 + 7 * t + 1, b + 14 + 7 * t + 1]) := bbt (P := fun b t => zS1[b + 10 + 7 * t]? = some (6, 0, [b + 11 + 7 * t + 1, b + 12 + 7 * t + 1, 0, 0, 0, 0, 0, 0, b + 13 + 7 * t + 1, b + 14 + 7 * t + 1])) (by decide +kernel) (by decide +kernel) (by decide +kernel) hb ht
theorem shK {b t : Nat} (hb : BB b) (ht : t < 4) : zS1[b + 11 + 7 * t]? = some (10, 24, []) := bbt (P := fun b t => zS1[b + 11 + 7 * t]? = some (10, 24, [])) (by decide +kernel) (by decide +kernel) (by decide +kernel) hb ht
theorem shN {b t : Nat} (hb : BB b) (ht : t < 4) : zS1[b + 12 + 7 * t]? = some (10, 24, []) := bbt (P := fun b t => zS1[b + 12 + 7 * t]? = some (10, 24, [])) (by decide +kernel) (by decide +kernel) (by decide +kernel) hb ht
theorem shF {b t : Nat} (hb : BB b) (ht : t < 4) : zS1[b + 13 + 7 * t]? = some (10, 5, []) := bbt (P := fun b t => zS1[b + 13 + 7 * t]? = some (10, 5, [])) (by decide +kernel) (by decide +kernel) (by decide +kernel) hb ht
theorem shG {b t : Nat} (hb : BB b) (ht : t < 4) : zS1[b + 14 + 7 * t]? = some (0, 0, [0, 0, 0, 0, b + 15 + 7 * t + 1, 0, 0, 0, b + 16 + 7 * t + 1, 0]) := bbt (P := fun b t => zS1[b + 14 + 7 * t]? = some (0, 0, [0, 0, 0, 0, b + 15 + 7 * t + 1, 0, 0, 0, b + 16 + 7 * t + 1, 0])) (by decide +kernel) (by decide +kernel) (by decide +kernel) hb ht
theorem shO {b t : Nat} (hb : BB b) (ht : t < 4) : zS1[b + 15 + 7 * t]? = some (10, 4, []) := bbt (P := fun b t => zS1[b + 15 + 7 * t]? = some (10, 4, [])) (by decide +kernel) (by decide +kernel) (by decide +kernel) hb ht
theorem shV {b t : Nat} (hb : BB b) (ht : t < 4) : zS1[b + 16 + 7 * t]? = some (10, 32, []) := bbt (P := fun b t => zS1[b + 16 + 7 * t]? = some (10, 32, [])) (by decide +kernel) (by decide +kernel) (by decide +kernel) hb ht
theorem rvL {b l : Nat} (hl : l < 4) : zrv [b + 6, b + 7, b + 8, b + 9] l = some (b + 5 + l) := lt4 (P := fun l => zrv [b + 6, b + 7, b + 8, b + 9] l = some (b + 5 + l)) rfl rfl rfl rfl hl
theorem rvS {b t : Nat} (ht : t < 4) : zrv [b + 11, b + 18, b + 25, b + 32] t = some (b + 10 + 7 * t) := lt4 (P := fun t => zrv [b + 11, b + 18, b + 25, b + 32] t = some (b + 10 + 7 * t)) rfl rfl rfl rfl ht
theorem rv0 {x y : Nat} {l : List Nat} (h : x = y + 1) : zrv (x :: l) 0 = some y := by subst h; rfl
theorem bb1000 {b k : Nat} (hb : BB b) (hk : k ≤ 60) : Nat.blt (b + k) 1000 = true := by
  apply Nat.ble_eq_true_of_le
  rcases hb with rfl | rfl | rfl <;> omega
theorem zand3 {t : Nat} (ht : t < 4) : Int32.ofNat t &&& Int32.ofNat 3 = Int32.ofNat t := lt4 (P := fun t => Int32.ofNat t &&& Int32.ofNat 3 = Int32.ofNat t) (by decide) (by decide) (by decide) (by decide) ht
section ZRL
variable {σ : Nat → Nat × (Nat → Int32)} {d j pc : Nat} {lv : zLv} {r : List Value} {m : Nat → Nat → Int32} {y : (Nat → Nat → Int64) × Bool × Nat × Nat} {o : zO} {M' : zMem}
theorem zeRL {S : List (Nat × Nat × List Nat)} {a n k c kd : Nat} {rs : List Nat} (hf : zfe j pc = some (.aaload, 1)) (hS : S[a]? = some (kd, n, rs)) (hkd : (kd == 12 || kd == 13) = true) (hn : Nat.ble n 2000 = true) (hk : k < n) (hc : zrv rs k = some c) (kk : zEv σ d j (pc + 1) lv (.ref c :: r) (S, m, y) o M') : zEv σ d j pc lv (.int (Int32.ofNat k) :: .ref a :: r) (S, m, y) o M' := by
  refine zeS hf rfl ?_ kk
  simp only [zS, zaald, hS, hkd, zinB hk (Nat.le_of_ble_eq_true hn), zcl hk (Nat.le_of_ble_eq_true hn), Bool.not_false, Bool.and_self, cond_true, hc]
end ZRL
theorem zeON {σ : Nat → Nat × (Nat → Int32)} {d j pc : Nat} {lv : zLv} {r st : List Value} {M : zMem} {o : zO} {M' : zMem} {i : Instr} {len pc' c : Nat} {w : Int32} (hf : zfe j pc = some (i, len)) (hp : zP (j / 200) i pc lv st = some (pc', lv, .int w :: r)) (hv : w = Int32.ofNat c) (k : zEv σ d j pc' lv (.int (Int32.ofNat c) :: r) M o M') : zEv σ d j pc lv st M o M' := by
  subst hv
  exact zeP hf hp k
theorem zeCV {σ : Nat → Nat × (Nat → Int32)} {d j pc : Nat} {lv : zLv} {st : List Value} {S : List (Nat × Nat × List Nat)} {m : Nat → Nat → Int32} {y : (Nat → Nat → Int64) × Bool × Nat × Nat} {o : zO} {M' : zMem} {idx len j' a kd n h pl : Nat} {as rest : List Value} {rs : List Nat} {v : Option Value} {M1 : zMem} (hf : zfe j pc = some (.invokevirtual idx, len)) (hl : (zmp (j / 200)).lookup idx = some (0, j', pl)) (ht : zthr j pc = none) (hsp : zsp j' (zna j' + 1) st = some (j', .ref a :: as, rest)) (hS : S[a]? = some (kd, n, rs)) (hkd : (kd == j' / 200) = true) (h1 : zF σ h j' (.ref a :: as) (S, m, y) (.inl v) M1) (hh : h ≤ d) (k : zEv σ (d + 1) j (pc + 3) lv (v.toList ++ rest) M1 o M') : zEv σ (d + 1) j pc lv st (S, m, y) o M' := by
  refine zeCF hf rfl rfl (zret_none (by intro e; cases e) (by intro e; cases e) (by intro e; cases e)) ht ?_ h1 hh k
  simp only [zcall, hl, hsp, hS, hkd, cond_true]
