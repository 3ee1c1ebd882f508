/-! rules for the class's Reader: its place and begin beside the memory -/
def XP (m : Nat → Nat → Int32) (p b : Nat) : Nat → Nat → Int32 := fun i => if i = 128 then (fun k => if k = 3 then Int32.ofNat p else if k = 4 then Int32.ofNat b else m 128 k) else m i
theorem XP_ne {m : Nat → Nat → Int32} {p b i : Nat} (h : i ≠ 128) : XP m p b i = m i := if_neg h
theorem XP_p (m : Nat → Nat → Int32) (p b q : Nat) : zm2 (XP m p b) 128 3 (Int32.ofNat q) = XP m q b := by
  funext i k
  unfold zm2 XP upd
  by_cases h : i = 128
  · subst h
    by_cases h8 : k = 3
    · simp [h8]
    · simp [h8]
  · simp [h]
theorem XP_b (m : Nat → Nat → Int32) (p b q : Nat) : zm2 (XP m p b) 128 4 (Int32.ofNat q) = XP m p q := by
  funext i k
  unfold zm2 XP upd
  by_cases h : i = 128
  · subst h
    by_cases h8 : k = 4
    · simp [h8]
    · simp [h8]
  · simp [h]
theorem XP_put (m : Nat → Nat → Int32) (p b : Nat) {a : Nat} (k : Nat) (x : Int32) (h : a ≠ 128) : zm2 (XP m p b) a k x = XP (zm2 m a k x) p b := by
  funext i l
  unfold zm2 XP
  by_cases hi : i = a
  · subst hi
    rw [if_pos rfl, if_neg h, if_neg h]
    show _ = (if i = i then upd (m i) k x else m i) l
    rw [if_pos rfl]
  · rw [if_neg hi]
    by_cases h2 : i = 128
    · subst h2
      rw [if_pos rfl, if_pos rfl]
      show _ = if l = 3 then _ else if l = 4 then _ else (if 128 = a then upd (m a) k x else m 128) l
      rw [if_neg hi]
    · rw [if_neg h2, if_neg h2]
      show _ = (if i = a then upd (m a) k x else m i) l
      rw [if_neg hi]
theorem XP_self {m : Nat → Nat → Int32} {p b : Nat} (hp : m 128 3 = Int32.ofNat p) (hb : m 128 4 = Int32.ofNat b) : XP m p b = m := by
  funext i k
  unfold XP
  by_cases h : i = 128
  · subst h
    by_cases h8 : k = 3
    · subst h8; simp [hp]
    · by_cases h10 : k = 4
      · subst h10; simp [hb]
      · simp [h8, h10]
  · simp [h]
/-- the Reader's text -/
def XR (m : Nat → Nat → Int32) (T : Nat → Int32) (e : Nat) : Prop := (∀ k, k < 400 → m 127 k = T k) ∧ m 128 2 = Int32.ofNat e ∧ e ≤ 400
theorem XR.put {m : Nat → Nat → Int32} {T : Nat → Int32} {e a k : Nat} (h : XR m T e) (x : Int32) (ha : a < 127) : XR (zm2 m a k x) T e := by
  refine ⟨fun l hl => ?_, ?_, h.2.2⟩
  · rw [zx_ne _ _ _ (by omega)]; exact h.1 l hl
  · rw [zx_ne _ _ _ (by omega)]; exact h.2.1
theorem XR.same {m m' : Nat → Nat → Int32} {T : Nat → Int32} {e : Nat} (h : XR m T e) (g : ∀ i l, 127 ≤ i → i ≤ 128 → m' i l = m i l) : XR m' T e := ⟨fun l hl => by rw [g _ _ (by omega) (by omega)]; exact h.1 l hl, by rw [g _ _ (by omega) (by omega)]; exact h.2.1, h.2.2⟩
theorem zS127 : zS1[127]? = some (11, 400, []) := rfl
theorem zS128 : zS1[128]? = some (5, 0, [128, 44, 0, 0, 0]) := rfl
/-- the rows of the start -/
def ZS (σ : Nat → Nat × (Nat → Int32)) : Prop := ∀ n, n < 4 → σ (n + 1) = ((zla n).length, fun k => (zla n).getD k 0)
section ZXR
variable {σ : Nat → Nat × (Nat → Int32)} {d j pc : Nat} {lv : zLv} {r st : List Value} {m : Nat → Nat → Int32} {p b : Nat} {y : (Nat → Nat → Int64) × Bool × Nat × Nat} {o : zO} {M' : zMem}
theorem zeXp {idx pl : Nat} (hf : zfe j pc = some (.getfield idx, 3)) (hl : (zfp (j / 200)).lookup idx = some (5, 3, pl)) (kk : zEv σ d j (pc + 3) lv (.int (Int32.ofNat p) :: r) (zS1, XP m p b, y) o M') : zEv σ d j pc lv (.ref 128 :: r) (zS1, XP m p b, y) o M' := zeGI hf hl zS128 rfl rfl kk
theorem zeXb {idx pl : Nat} (hf : zfe j pc = some (.getfield idx, 3)) (hl : (zfp (j / 200)).lookup idx = some (5, 4, pl)) (kk : zEv σ d j (pc + 3) lv (.int (Int32.ofNat b) :: r) (zS1, XP m p b, y) o M') : zEv σ d j pc lv (.ref 128 :: r) (zS1, XP m p b, y) o M' := zeGI hf hl zS128 rfl rfl kk
theorem zeXe {idx pl e : Nat} (he : m 128 2 = Int32.ofNat e) (hf : zfe j pc = some (.getfield idx, 3)) (hl : (zfp (j / 200)).lookup idx = some (5, 2, pl)) (kk : zEv σ d j (pc + 3) lv (.int (Int32.ofNat e) :: r) (zS1, XP m p b, y) o M') : zEv σ d j pc lv (.ref 128 :: r) (zS1, XP m p b, y) o M' := by
  rw [← he] at kk
  exact zeGI hf hl zS128 rfl rfl kk
theorem zeXpS {idx pl q : Nat} (hf : zfe j pc = some (.putfield idx, 3)) (hl : (zfp (j / 200)).lookup idx = some (5, 3, pl)) (kk : zEv σ d j (pc + 3) lv r (zS1, XP m q b, y) o M') : zEv σ d j pc lv (.int (Int32.ofNat q) :: .ref 128 :: r) (zS1, XP m p b, y) o M' := by
  refine zePI hf hl zS128 rfl ?_
  rw [XP_p]
  exact kk
theorem zeXbS {idx pl q : Nat} (hf : zfe j pc = some (.putfield idx, 3)) (hl : (zfp (j / 200)).lookup idx = some (5, 4, pl)) (kk : zEv σ d j (pc + 3) lv r (zS1, XP m p q, y) o M') : zEv σ d j pc lv (.int (Int32.ofNat q) :: .ref 128 :: r) (zS1, XP m p b, y) o M' := by
  refine zePI hf hl zS128 rfl ?_
  rw [XP_b]
  exact kk
theorem zeXB {T : Nat → Int32} {e k : Nat} (hG : XR m T e) (hf : zfe j pc = some (.baload, 1)) (hk : k < 400) (kk : zEv σ d j (pc + 1) lv (.int (T k) :: r) (zS1, XP m p b, y) o M') : zEv σ d j pc lv (.int (Int32.ofNat k) :: .ref 127 :: r) (zS1, XP m p b, y) o M' := by
  refine zeBL hf zS127 rfl hk ?_
  rw [XP_ne (by decide), hG.1 k hk]
  exact kk
theorem zeXGI {idx ci k pl a n t : Nat} {rs : List Nat} {f : Bool} (ha : a ≠ 128) (hf : zfe j pc = some (.getfield idx, 3)) (hl : (zfp (j / 200)).lookup idx = some (ci, k, pl)) (hS : zS1[a]? = some (ci, n, rs)) (ht : (zft ci)[k]? = some (t, f)) (h2 : Nat.beq t 2 = false) (kk : zEv σ d j (pc + 3) lv (.int (m a k) :: r) (zS1, XP m p b, y) o M') : zEv σ d j pc lv (.ref a :: r) (zS1, XP m p b, y) o M' := by
  refine zeGI hf hl hS ht h2 ?_
  rw [XP_ne ha]
  exact kk
theorem zeXPI {idx ci k pl a n : Nat} {rs : List Nat} {x : Int32} (ha : a ≠ 128) (hf : zfe j pc = some (.putfield idx, 3)) (hl : (zfp (j / 200)).lookup idx = some (ci, k, pl)) (hS : zS1[a]? = some (ci, n, rs)) (ht : (zft ci)[k]? = some (0, false)) (kk : zEv σ d j (pc + 3) lv r (zS1, XP (zm2 m a k x) p b, y) o M') : zEv σ d j pc lv (.int x :: .ref a :: r) (zS1, XP m p b, y) o M' := by
  refine zePI hf hl hS ht ?_
  rw [XP_put _ _ _ _ _ ha]
  exact kk
theorem zeXAS {a n k : Nat} {rs : List Nat} {x : Int32} (ha : a ≠ 128) (hf : zfe j pc = some (.iastore, 1)) (hS : zS1[a]? = some (10, n, rs)) (hn : Nat.ble n 2000 = true) (hk : k < n) (kk : zEv σ d j (pc + 1) lv r (zS1, XP (zm2 m a k x) p b, y) o M') : zEv σ d j pc lv (.int x :: .int (Int32.ofNat k) :: .ref a :: r) (zS1, XP m p b, y) o M' := by
  refine zeAS hf hS hn hk ?_
  rw [XP_put _ _ _ _ _ ha]
  exact kk
theorem zeSt {M : zMem} {n k : Nat} (hs : ZS σ) (hn : n < 4) (hf : zfe j pc = some (.iaload, 1)) (hk : k < (zla n).length) (hl : (zla n).length ≤ 2000) (kk : zEv σ d j (pc + 1) lv (.int ((zla n).getD k 0) :: r) M o M') : zEv σ d j pc lv (.int (Int32.ofNat k) :: .ref (1000 + (n + 1)) :: r) M o M' := by
  refine zeS hf rfl ?_ kk
  have h1 : Nat.blt (1000 + (n + 1)) 1000 = false := by
    cases hb : Nat.blt (1000 + (n + 1)) 1000 with
    | false => rfl
    | true => exact absurd (Nat.le_of_ble_eq_true hb) (by omega)
  have h2 : Nat.blt (1000 + (n + 1)) 1005 = true := Nat.ble_eq_true_of_le (by omega)
  have h3 : 1000 + (n + 1) - 1000 = n + 1 := by omega
  have h4 : zoutB (Int32.ofNat k) (zla n).length = false := zinB hk hl
  have h5 : (Int32.ofNat k).toNatClampNeg = k := zcl hk hl
  simp only [zS, ziald, h1, cond_false, h2, h3, hs n hn, h4, h5, Bool.not_false, Bool.and_self, cond_true]
end ZXR
