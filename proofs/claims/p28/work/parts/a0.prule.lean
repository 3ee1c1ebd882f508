/-! rules for the reading of a text: bytes, texts, the reference's point and begin -/
def TP (m : Nat → Nat → Int32) (p b : Nat) : Nat → Nat → Int32 := fun i => if i = 137 then (fun k => if k = 8 then Int32.ofNat p else if k = 10 then Int32.ofNat b else m 137 k) else m i
def pe (m : Nat → Nat → Int32) : Nat := (m 137 9).toNatClampNeg
def PG (m : Nat → Nat → Int32) : Prop := m 137 9 = Int32.ofNat (pe m) ∧ pe m ≤ 400
theorem TP_p (m : Nat → Nat → Int32) (p b q : Nat) : zm2 (TP m p b) 137 8 (Int32.ofNat q) = TP m q b := by
  funext i k
  unfold zm2 TP upd
  by_cases h : i = 137
  · subst h
    by_cases h8 : k = 8
    · simp [h8]
    · simp [h8]
  · simp [h]
theorem TP_b (m : Nat → Nat → Int32) (p b q : Nat) : zm2 (TP m p b) 137 10 (Int32.ofNat q) = TP m p q := by
  funext i k
  unfold zm2 TP upd
  by_cases h : i = 137
  · subst h
    by_cases h8 : k = 10
    · simp [h8]
    · simp [h8]
  · simp [h]
theorem TP_self {m : Nat → Nat → Int32} {p b : Nat} (hp : m 137 8 = Int32.ofNat p) (hb : m 137 10 = Int32.ofNat b) : TP m p b = m := by
  funext i k
  unfold TP
  by_cases h : i = 137
  · subst h
    by_cases h8 : k = 8
    · subst h8; simp [hp]
    · by_cases h10 : k = 10
      · subst h10; simp [hb]
      · simp [h8, h10]
  · simp [h]
theorem zS141 : zS1[141]? = some (11, 400, []) := rfl
def zby (n : Nat) : List Int32 := match zlit[n]? with
  | some q => q.2.2.2.2
  | none => []
theorem zby_len : ∀ s, s < 37 → (zby s).length ≤ 100 := by decide
theorem zby_of {s : Nat} (hs : s < 37) : ∃ q, zlit[s]? = some q ∧ q.2.2.2.2 = zby s := by
  have h : s < zlit.length := hs
  refine ⟨zlit[s], List.getElem?_eq_getElem h, ?_⟩
  unfold zby
  rw [List.getElem?_eq_getElem h]
section ZPR
variable {σ : Nat → Nat × (Nat → Int32)} {d j pc : Nat} {lv : zLv} {r st : List Value} {m : Nat → Nat → Int32} {W : Nat → Int32} {p b : Nat} {y : (Nat → Nat → Int64) × Bool × Nat × Nat} {o : zO} {M M' : zMem}
theorem zeBL {S : List (Nat × Nat × List Nat)} {a n k : Nat} {rs : List Nat} (hf : zfe j pc = some (.baload, 1)) (hS : S[a]? = some (11, n, rs)) (hn : Nat.ble n 2000 = true) (hk : k < n) (kk : zEv σ d j (pc + 1) lv (.int (m a k) :: r) (S, m, y) o M') : zEv σ d j pc lv (.int (Int32.ofNat k) :: .ref a :: r) (S, m, y) o M' := by
  refine zeS hf rfl ?_ kk
  simp only [zS, zbald, hS, beq_self_eq_true, zinB hk (Nat.le_of_ble_eq_true hn), zcl hk (Nat.le_of_ble_eq_true hn), Bool.not_false, Bool.and_self, cond_true]
theorem zeBS {S : List (Nat × Nat × List Nat)} {a n k : Nat} {rs : List Nat} {x : Int32} (hf : zfe j pc = some (.bastore, 1)) (hS : S[a]? = some (11, n, rs)) (hn : Nat.ble n 2000 = true) (hk : k < n) (kk : zEv σ d j (pc + 1) lv r (S, zm2 m a k (vp_nar .byte x), y) o M') : zEv σ d j pc lv (.int x :: .int (Int32.ofNat k) :: .ref a :: r) (S, m, y) o M' := by
  refine zeS hf rfl ?_ kk
  simp only [zS, zbast, hS, beq_self_eq_true, zinB hk (Nat.le_of_ble_eq_true hn), zcl hk (Nat.le_of_ble_eq_true hn), Bool.not_false, Bool.and_self, cond_true]
theorem zeTp {idx pl : Nat} (hf : zfe j pc = some (.getfield idx, 3)) (hl : (zfp (j / 200)).lookup idx = some (9, 8, pl)) (kk : zEv σ d j (pc + 3) lv (.int (Int32.ofNat p) :: r) (zS1, zrow (TP m p b) 138 W, y) o M') : zEv σ d j pc lv (.ref 137 :: r) (zS1, zrow (TP m p b) 138 W, y) o M' := zeFI hf hl rfl rfl kk
theorem zeTb {idx pl : Nat} (hf : zfe j pc = some (.getfield idx, 3)) (hl : (zfp (j / 200)).lookup idx = some (9, 10, pl)) (kk : zEv σ d j (pc + 3) lv (.int (Int32.ofNat b) :: r) (zS1, zrow (TP m p b) 138 W, y) o M') : zEv σ d j pc lv (.ref 137 :: r) (zS1, zrow (TP m p b) 138 W, y) o M' := zeFI hf hl rfl rfl kk
theorem zeTe {idx pl : Nat} (he : m 137 9 = Int32.ofNat (pe m)) (hf : zfe j pc = some (.getfield idx, 3)) (hl : (zfp (j / 200)).lookup idx = some (9, 9, pl)) (kk : zEv σ d j (pc + 3) lv (.int (Int32.ofNat (pe m)) :: r) (zS1, zrow (TP m p b) 138 W, y) o M') : zEv σ d j pc lv (.ref 137 :: r) (zS1, zrow (TP m p b) 138 W, y) o M' := by
  rw [← he] at kk
  exact zeFI hf hl rfl rfl kk
theorem zeTpS {idx pl q : Nat} (hf : zfe j pc = some (.putfield idx, 3)) (hl : (zfp (j / 200)).lookup idx = some (9, 8, pl)) (kk : zEv σ d j (pc + 3) lv r (zS1, zrow (TP m q b) 138 W, y) o M') : zEv σ d j pc lv (.int (Int32.ofNat q) :: .ref 137 :: r) (zS1, zrow (TP m p b) 138 W, y) o M' := by
  refine zeFP hf hl rfl ?_
  rw [TP_p]
  exact kk
theorem zeTbS {idx pl q : Nat} (hf : zfe j pc = some (.putfield idx, 3)) (hl : (zfp (j / 200)).lookup idx = some (9, 10, pl)) (kk : zEv σ d j (pc + 3) lv r (zS1, zrow (TP m p q) 138 W, y) o M') : zEv σ d j pc lv (.int (Int32.ofNat q) :: .ref 137 :: r) (zS1, zrow (TP m p b) 138 W, y) o M' := by
  refine zeFP hf hl rfl ?_
  rw [TP_b]
  exact kk
theorem zeTB {k : Nat} (hf : zfe j pc = some (.baload, 1)) (hk : k < 400) (kk : zEv σ d j (pc + 1) lv (.int (m 141 k) :: r) (zS1, zrow (TP m p b) 138 W, y) o M') : zEv σ d j pc lv (.int (Int32.ofNat k) :: .ref 141 :: r) (zS1, zrow (TP m p b) 138 W, y) o M' := zeBL hf zS141 rfl hk kk
theorem zeLn {s idx j' pl : Nat} (hs : s < 37) (hf : zfe j pc = some (.invokevirtual idx, 3)) (hm : (zmp (j / 200)).lookup idx = some (6, j', pl)) (hr : zret j (.invokevirtual idx) (.ref (1100 + s) :: r) = none) (ht : zthr j pc = none) (hz : Nat.ble (zsum r) 8 = true) (kk : zEv σ d j (pc + 3) lv (.int (Int32.ofNat (zby s).length) :: r) M o M') : zEv σ d j pc lv (.ref (1100 + s) :: r) M o M' := by
  obtain ⟨q, hq, hb⟩ := zby_of hs
  refine zeM hf rfl rfl hr ht (by simp only [zcall, hm]) ?_ kk
  have h1 : Nat.ble 1100 (1100 + s) = true := Nat.ble_eq.mpr (Nat.le_add_right _ _)
  simp only [zmath, hm, h1, hz, Bool.and_self, cond_true, Nat.add_sub_cancel_left, hq, hb]
theorem zeCh {s k idx j' pl : Nat} (hs : s < 37) (hk : k < (zby s).length) (hf : zfe j pc = some (.invokevirtual idx, 3)) (hm : (zmp (j / 200)).lookup idx = some (7, j', pl)) (hr : zret j (.invokevirtual idx) (.int (Int32.ofNat k) :: .ref (1100 + s) :: r) = none) (ht : zthr j pc = none) (hz : Nat.ble (zsum r) 8 = true) (kk : zEv σ d j (pc + 3) lv (.int ((zby s).getD k 0) :: r) M o M') : zEv σ d j pc lv (.int (Int32.ofNat k) :: .ref (1100 + s) :: r) M o M' := by
  obtain ⟨q, hq, hb⟩ := zby_of hs
  have hl := zby_len s hs
  refine zeM hf rfl rfl hr ht (by simp only [zcall, hm]) ?_ kk
  have h1 : Nat.ble 1100 (1100 + s) = true := Nat.ble_eq.mpr (Nat.le_add_right _ _)
  have h2 : zoutB (Int32.ofNat k) (zby s).length = false := zinB hk (by omega)
  have h3 : (Int32.ofNat k).toNatClampNeg = k := zcl hk (by omega)
  simp only [zmath, hm, h1, hz, Bool.and_self, cond_true, Nat.add_sub_cancel_left, hq, hb, h2, h3, Bool.not_false]
end ZPR
theorem tge_f {a b : Nat} (ha : a ≤ 100000) (hb : b ≤ 100000) (h : zc2 .ge (Int32.ofNat a) (Int32.ofNat b) = false) : a < b := by
  have h1 := of_decide_eq_false h
  rw [Int32.le_iff_toInt_le, zoN (by omega), zoN (by omega)] at h1
  omega
theorem tge_t {a b : Nat} (ha : a ≤ 100000) (hb : b ≤ 100000) (h : zc2 .ge (Int32.ofNat a) (Int32.ofNat b) = true) : b ≤ a := by
  have h1 := of_decide_eq_true h
  rw [Int32.le_iff_toInt_le, zoN (by omega), zoN (by omega)] at h1
  omega
