/-! the search on both sides: the class gives up an order as soon as an output is wrong -/
section ZSE
variable {m M m' M' m'' M'' : Nat → Nat → Int32} {W : Nat → Int32} {b t e all O : Nat} {o : Int32}
theorem zcpy_at {a0 a1 s p n w : Nat} (h : w < n) : zcpy m a0 a1 s p n a1 (p + w) = m a0 (s + w) := by
  unfold zcpy va_cpy
  rw [if_pos rfl, if_pos ⟨by omega, by omega⟩, show s + (p + w - p) = s + w by omega]
theorem zcpy_out {a0 a1 s p n l : Nat} (h : l < p ∨ p + n ≤ l) : zcpy m a0 a1 s p n a1 l = m a1 l := by
  unfold zcpy va_cpy
  rw [if_pos rfl, if_neg (by omega)]
theorem asNow2_0 : ∀ (n k : Nat), l_asNow2 M W b O n (Int32.ofNat 0) k = Int32.ofNat 0 := by
  intro n k
  cases n with
  | zero => rfl
  | succ n => rw [l_asNow2, zeq0, cnT]
theorem asNow1_0 : ∀ (n k : Nat), l_asNow1 M W b O n (Int32.ofNat 0) k = Int32.ofNat 0 := by
  intro n k
  cases n with
  | zero => exact asNow2_0 _ _
  | succ n =>
    rw [l_asNow1, zeq0, cnT]
    exact asNow2_0 _ _
theorem asNow2_v : ∀ (n k : Nat), (∀ j, k ≤ j → j < k + n → M 143 (b + 41 + j) = W (96 + j)) → l_asNow2 M W b O n (Int32.ofNat 1) k = Int32.ofNat 1 := by
  intro n
  induction n with
  | zero => intro k _; rfl
  | succ n ih =>
    intro k h
    rw [l_asNow2, zeq1', cnF, h k (by omega) (by omega), zne_same, cnF]
    exact ih _ (fun j h1 h2 => h j (by omega) (by omega))
theorem asNow2_n : ∀ (n k : Nat), (∃ j, k ≤ j ∧ j < k + n ∧ M 143 (b + 41 + j) ≠ W (96 + j)) → l_asNow2 M W b O n (Int32.ofNat 1) k = Int32.ofNat 0 := by
  intro n
  induction n with
  | zero => intro k ⟨j, h1, h2, _⟩; exact absurd h1 (by omega)
  | succ n ih =>
    intro k ⟨j, h1, h2, h3⟩
    rw [l_asNow2, zeq1', cnF]
    by_cases hk : M 143 (b + 41 + k) = W (96 + k)
    · rw [hk, zne_same, cnF]
      refine ih _ ⟨j, ?_, by omega, h3⟩
      by_cases e : j = k
      · subst e; exact absurd hk h3
      · omega
    · rw [show zc2 .ne (M 143 (b + 41 + k)) (W (96 + k)) = true from decide_eq_true hk, cnT]
      exact asNow2_0 _ _
theorem asNow1_n (h : l_asNow2 M W b O (2 * O) (Int32.ofNat 1) 0 = Int32.ofNat 0) : ∀ (n k : Nat), l_asNow1 M W b O n (Int32.ofNat 1) k = Int32.ofNat 0 := by
  intro n
  induction n with
  | zero => intro k; exact h
  | succ n ih =>
    intro k
    rw [l_asNow1, zeq1', cnF]
    exact cndi (fun q : Int32 => q = Int32.ofNat 0) (asNow1_0 _ _) (ih _)
/-- an order whose outputs are wrong is none -/
theorem isAsNow_bd (h : oBD W b M) (hW : WG W) : q_isAsNow M W b (nv W 14) = Int32.ofNat 0 := by
  have k14 := hW.1.2.2.2.2.1
  unfold q_isAsNow
  cases hc : zc2 .ne (M 143 (b + 40)) (W 14) with
  | true => rw [cnT]; exact asNow1_0 _ _
  | false =>
    rw [cnF]
    have z : ¬ ¬ M 143 (b + 40) = W 14 := of_decide_eq_false hc
    have e : M 143 (b + 40) = W 14 := Classical.byContradiction z
    unfold oBD at h
    rw [e] at h
    rcases h with h | ⟨k, h1, h2, h3⟩
    · exact absurd h (Nat.lt_irrefl _)
    · exact asNow1_n (asNow2_n _ _ ⟨k, Nat.zero_le _, by unfold nv; omega, h3⟩) _ _
/-- the end of an order, alike -/
theorem came_L (h : LW m W) (s : oSR W b m M) (h2 : l_asNow2 M W b O (2 * O) (Int32.ofNat 1) 0 = Int32.ofNat 1) : ∀ (n k : Nat), k + n = 32 → xl_cameL m n k = l_asNow1 M W b O n (Int32.ofNat 1) k := by
  intro n
  induction n with
  | zero => intro k _; exact h2.symm
  | succ n ih =>
    intro k hk
    have e1 := s.1 k (by omega)
    have e2 : m (1 + 1) k = W (32 + k) := h.1.1.globR (by omega) (by omega) (cm_w (by omega))
    rw [xl_cameL, l_asNow1, zeq1', cnF, e1, e2, show b + 0 + k = b + k from rfl, zne2_n]
    cases zc2 .eq (M 143 (b + k)) (W (32 + k)) with
    | true => rw [cnT, Bool.not_true, cnF]; exact ih _ (by omega)
    | false => rw [cnF, Bool.not_false, cnT]; exact (asNow1_0 _ _).symm
theorem came_eq (h : LW m W) (s : oSR W b m M) (hO : OL M b) : x_cameOut m = q_isAsNow M W b (nv W 14) := by
  have k14 := h.1.2.W.1.2.2.2.2.1
  have e12 : m 1 12 = W 14 := h.1.1.globR (k := 14) (o := 0) (s := 12) (by omega) (by omega) rfl
  unfold x_cameOut q_isAsNow
  rw [s.2.2.2.1, e12, zne2_n]
  cases hc : zc2 .eq (M 143 (b + 40)) (W 14) with
  | false => rw [cnF, Bool.not_false, cnT]; exact (asNow1_0 _ _).symm
  | true =>
    rw [cnT, Bool.not_true, cnF]
    have e : M 143 (b + 40) = W 14 := of_decide_eq_true hc
    have gd := s.2.2.2.2
    unfold oGD at gd
    rw [e] at gd
    exact came_L h s (asNow2_v _ _ (fun j _ hj => gd.2 j (by unfold nv at hj; omega))) 32 0 rfl
/-- an order that is wrong stays so -/
theorem ordM_bd (hW : WG W) (ht : t < 4) (hO : OL M b) (hL : LG M W b) (hf : fr M b t < nv W (376 + 103 * t + 22)) (h : oBD W b M) : oBD W (b + 81) (ordM W e b t M) := by
  have h24 := (hW.2 t ht).2.2.2.1.2.2
  have hbp := bp_n hW ht hf
  obtain ⟨-, -, -, c4⟩ := copyL_v (b := b) 81 0 M rfl
  have h1 : oBD W (b + 81) (l_copyL b 81 0 M).2 := h.of (fun c _ h2 => c4 c (Nat.zero_le _) h2)
  have h2 : oBD W (b + 81) (ordP W b t M).2.2 := playL_bd (q := bpn W t (fr M b t)) hW ht (by omega) _ _ _ _ (by omega) (copyL_OL hO) h1
  have h3 : oBD W (b + 81) (zm2 (ordP W b t M).2.2 143 (b + 81 + 36 + t) (Int32.ofNat (bpn W t (fr M b t)))) := h2.put (by omega)
  exact h3.of (fun c _ _ => congrFun (zm2_i _ _ (by decide)) _)
theorem l_orders_bd {rec : (Nat → Nat → Int32) → Int32 × (Nat → Nat → Int32)} (hW : WG W) (hrec : ∀ m', OL m' (b + 81) → LG m' W (b + 81) → OK3 (b + 81) m' (rec m')) (hbd : ∀ m', OL m' (b + 81) → LG m' W (b + 81) → oBD W (b + 81) m' → (rec m').1 = Int32.ofNat 0) : ∀ (n t : Nat) (M : Nat → Nat → Int32), t + n = nv W 9 → OL M b → LG M W b → oBD W b M → (l_orders W e all b rec n t M).1 = Int32.ofNat 0 := by
  have hN4 := hW.N4
  intro n
  induction n with
  | zero => intro t M _ _ _ _; rfl
  | succ n ih =>
    intro t M hk hO hL hB
    unfold l_orders
    cases h1 : zc2 .ne (Int32.ofNat (fr M b t)) (Int32.ofNat (nv W (376 + 103 * t + 22))) with
    | false => exact ih (t + 1) M (by omega) hO hL hB
    | true =>
      have hf : fr M b t < nv W (376 + 103 * t + 22) := by
        have := tne_t h1
        have := (hL t (by omega)).2
        omega
      obtain ⟨o1, o2, o3, o4, o5⟩ := ordM_ok (e := e) hW (by omega) hO hL hf
      have hr := hrec _ o1 o2
      have hz := hbd _ o1 o2 (ordM_bd hW (by omega) hO hL hf hB)
      have f3 : ∀ c, c < b + 81 → (rec (ordM W e b t M)).2 143 c = M 143 c := fun c hc => (hr.2.2 c (by omega)).trans (o3 c hc)
      show (bif zc1 .eq (ordP W b t M).1 then l_orders W e all b rec n (t + 1) (ordM W e b t M) else bif zc1 .eq (rec (ordM W e b t M)).1 then l_orders W e all b rec n (t + 1) (rec (ordM W e b t M)).2 else (Int32.ofNat 1, (rec (ordM W e b t M)).2)).1 = Int32.ofNat 0
      rw [hz, zeq0, cnT]
      exact cndi (fun q : Int32 × (Nat → Nat → Int32) => q.1 = Int32.ofNat 0) (ih (t + 1) _ (by omega) (hO.of_fr o3) (hL.of_fr o3) (hB.of (fun c _ h2 => o3 _ (by omega)))) (ih (t + 1) _ (by omega) (hO.of_fr f3) (hL.of_fr f3) (hB.of (fun c _ h2 => f3 _ (by omega))))
theorem orders_bd (hW : WG W) : ∀ (n e b : Nat) (M : Nat → Nat → Int32), e + n = all → b = 81 * e → OL M b → LG M W b → oBD W b M → (q_orders W all n e M).1 = Int32.ofNat 0 := by
  intro n
  induction n with
  | zero =>
    intro e b M hk hb hO hL h
    subst hb
    exact isAsNow_bd h hW
  | succ n ih =>
    intro e b M hk hb hO hL h
    subst hb
    exact l_orders_bd (e := e) (all := all) (b := 81 * e) (rec := q_orders W all n (e + 1)) hW (fun m' h1 h2 => orders_ok hW n (e + 1) (81 * e + 81) m' (by omega) (by omega) h1 h2) (fun m' h1 h2 h3 => ih (e + 1) (81 * e + 81) m' (by omega) (by omega) h1 h2 h3) (nv W 9) 0 M (by omega) hO hL h
/-- what a part leaves alone -/
def oFP (t : Nat) (m m' : Nat → Nat → Int32) : Prop := ∀ i l, i ≠ 132 → (i ≠ 135 ∨ l ≠ t) → (i ≠ 131 ∨ l ≠ 6) → (i ≠ 134 ∨ l ≠ t) → m' i l = m i l
theorem oFP.rf : oFP t m m := fun _ _ _ _ _ _ => rfl
theorem oFP.put {a k : Nat} {x : Int32} (h : a = 132 ∨ (a = 135 ∧ k = t) ∨ (a = 131 ∧ k = 6) ∨ (a = 134 ∧ k = t)) : oFP t m (zm2 m a k x) := fun i l h1 h2 h3 h4 => zx_o _ _ (by omega)
theorem oFP.tr (h : oFP t m m') (g : oFP t m' m'') : oFP t m m'' := fun i l h1 h2 h3 h4 => (g i l h1 h2 h3 h4).trans (h i l h1 h2 h3 h4)
theorem playOutput_fp {s : Int32} : oFP t m (x_playOutput m t s).2 := by
  unfold x_playOutput
  exact cndi (fun q : Int32 × (Nat → Nat → Int32) => oFP t m q.2) oFP.rf (cndi (fun q : Int32 × (Nat → Nat → Int32) => oFP t m q.2) (cndi (fun q : Int32 × (Nat → Nat → Int32) => oFP t m q.2) oFP.rf (cndi (fun q : Int32 × (Nat → Nat → Int32) => oFP t m q.2) oFP.rf (cndi (fun q : Int32 × (Nat → Nat → Int32) => oFP t m q.2) (oFP.put (Or.inr (Or.inr (Or.inl ⟨rfl, rfl⟩)))) oFP.rf))) oFP.rf)
theorem playDeed_fp {K q : Nat} : oFP t m (x_playDeed m t K q).2 := by
  unfold x_playDeed
  split
  · unfold x_pd0
    exact cndi (fun q : Int32 × (Nat → Nat → Int32) => oFP t m q.2) (oFP.put (Or.inl rfl)) oFP.rf
  · exact oFP.put (Or.inl rfl)
  · exact oFP.put (Or.inr (Or.inl ⟨rfl, rfl⟩))
  · exact oFP.put (Or.inl rfl)
  · exact oFP.put (Or.inr (Or.inl ⟨rfl, rfl⟩))
  · exact oFP.put (Or.inr (Or.inl ⟨rfl, rfl⟩))
  · exact oFP.rf
  · exact playOutput_fp
theorem playPL_fp {en : Nat} : ∀ (n k : Nat) (m : Nat → Nat → Int32), oFP t m (xl_playPL t en n k m).2 := by
  intro n
  induction n with
  | zero => intro k m; exact oFP.put (Or.inr (Or.inr (Or.inr ⟨rfl, rfl⟩)))
  | succ n ih =>
    intro k m
    rw [xl_playPL]
    have g : oFP t m (x_playDeed m t (mv m (1 + 11 + 7 * t) k) (mv m (1 + 12 + 7 * t) k)).2 := playDeed_fp
    exact cndi (fun q : Int32 × (Nat → Nat → Int32) => oFP t m q.2) (g.tr (ih _ _)) g
/-- both stand alike at a level of the search -/
def oST (W : Nat → Int32) (all b : Nat) (m M : Nat → Nat → Int32) : Prop := LW m W ∧ OJ m (nv W 9) ∧ m 131 7 = Int32.ofNat all ∧ OL M b ∧ LG M W b ∧ oSR W b m M
/-- what a search comes to -/
def oRS (all e : Nat) (m : Nat → Nat → Int32) (X Y : Int32 × (Nat → Nat → Int32)) : Prop := ((X.1 = Int32.ofNat 1 ∧ Y.1 = Int32.ofNat 1 ∧ ∀ j, e ≤ j → j < all → X.2 136 j = Y.2 144 j) ∨ (X.1 = Int32.ofNat 0 ∧ Y.1 = Int32.ofNat 0 ∧ ∀ u, u < 4 → X.2 134 u = m 134 u ∧ X.2 135 u = m 135 u)) ∧ (∀ j, j < e → X.2 136 j = m 136 j) ∧ ∀ c, c < 32 * e → X.2 133 c = m 133 c
/-- the same rows as far as a level minds -/
def oSM (e : Nat) (m m' : Nat → Nat → Int32) : Prop := (∀ u, u < 4 → m' 134 u = m 134 u ∧ m' 135 u = m 135 u) ∧ (∀ j, j < e → m' 136 j = m 136 j) ∧ ∀ c, c < 32 * e → m' 133 c = m 133 c
theorem oRS.tr {X Y : Int32 × (Nat → Nat → Int32)} (r : oRS all e m' X Y) (s : oSM e m m') : oRS all e m X Y := by
  refine ⟨?_, fun j hj => (r.2.1 j hj).trans (s.2.1 j hj), fun c hc => (r.2.2 c hc).trans (s.2.2 c hc)⟩
  rcases r.1 with r | ⟨r1, r2, r3⟩
  · exact Or.inl r
  · exact Or.inr ⟨r1, r2, fun u hu => ⟨(r3 u hu).1.trans (s.1 u hu).1, (r3 u hu).2.trans (s.1 u hu).2⟩⟩
/-- a try taken back: both stand as before -/
theorem back_st (st : oST W all b m M) (sv : ∀ w, w < 32 → m 133 (e * 32 + w) = m 132 w) (ho : m 131 6 = o) (ht : t < nv W 9) (hj : OJ m'' (nv W 9)) (g : OG m m'') (f3 : ∀ c, c < 32 * e + 32 → m'' 133 c = m 133 c) (f4 : ∀ u, u < 4 → u ≠ t → m'' 134 u = m 134 u ∧ m'' 135 u = m 135 u) (f6 : ∀ j, j < e → m'' 136 j = m 136 j) (q3 : ∀ c, c < b + 81 → M'' 143 c = M 143 c) : oST W all b (rst m m'' e t o) M'' ∧ (∀ w, w < 32 → rst m m'' e t o 133 (e * 32 + w) = rst m m'' e t o 132 w) ∧ rst m m'' e t o 131 6 = o ∧ oSM e m (rst m m'' e t o) := by
  obtain ⟨a1, a2, a3, a4, a5, a6⟩ := st
  have hN := a1.1.2.W.N4
  have r6 : rst m m'' e t o 131 6 = o := zx_at _ _ _ _
  have rl : ∀ i l, i ≠ 132 → i ≠ 134 → i ≠ 135 → (i ≠ 131 ∨ l ≠ 6) → rst m m'' e t o i l = m'' i l := by
    intro i l h1 h2 h3 h4
    unfold rst
    rw [zx_o _ _ (by omega), zx_ne _ _ _ h3, zx_ne _ _ _ h2, zcpy_ne h1]
  have r2 : ∀ w, w < 32 → rst m m'' e t o 132 w = m 132 w := by
    intro w hw
    unfold rst
    rw [zx_ne _ _ _ (by omega), zx_ne _ _ _ (by omega), zx_ne _ _ _ (by omega)]
    have z := zcpy_at (m := m'') (a0 := 133) (a1 := 132) (s := e * 32) (p := 0) (n := 32) (w := w) hw
    rw [Nat.zero_add] at z
    rw [z, f3 _ (by omega)]
    exact sv w hw
  have r4 : ∀ u, u < 4 → rst m m'' e t o 134 u = m 134 u := by
    intro u hu
    unfold rst
    rw [zx_ne _ _ _ (by omega), zx_ne _ _ _ (by omega)]
    by_cases h : u = t
    · subst h
      rw [zx_at]
      exact (a2.2.2.1 u hu).1.symm
    · rw [zx_nk _ _ h, zcpy_ne (by omega)]
      exact (f4 u hu h).1
  have r5 : ∀ u, u < 4 → rst m m'' e t o 135 u = m 135 u := by
    intro u hu
    unfold rst
    rw [zx_ne _ _ _ (by omega)]
    by_cases h : u = t
    · subst h
      rw [zx_at]
    · rw [zx_nk _ _ h, zx_ne _ _ _ (by omega), zcpy_ne (by omega)]
      exact (f4 u hu h).2
  refine ⟨⟨a1.far (fun i l h1 h2 => (rl i l (by omega) (by omega) (by omega) (by omega)).trans (g.1 i l (by omega))), rst_j a2 hj (by omega), ((rl 131 7 (by omega) (by omega) (by omega) (by omega)).trans (g.2 7 (by omega))).trans a3, a4.of_fr q3, a5.of_fr q3, ?_⟩, fun w hw => ?_, r6, fun u hu => ⟨r4 u hu, r5 u hu⟩, fun j hj2 => (rl 136 j (by omega) (by omega) (by omega) (by omega)).trans (f6 j hj2), fun c hc => (rl 133 c (by omega) (by omega) (by omega) (by omega)).trans (f3 c (by omega))⟩
  · refine ⟨fun w hw => ?_, fun u hu => ?_, fun u hu => ?_, ?_, a6.2.2.2.2.of a4 (fun c _ hc => q3 _ (by omega))⟩
    · rw [r2 w hw, a6.1 w hw, q3 _ (by omega)]
    · rw [r5 u (by omega), a6.2.1 u hu, q3 _ (by omega)]
    · rw [r4 u (by omega), a6.2.2.1 u hu, q3 _ (by omega)]
    · rw [r6, ← ho, a6.2.2.2.1, q3 _ (by omega)]
  · rw [r2 w hw, rl _ _ (by omega) (by omega) (by omega) (by omega), f3 _ (by omega)]
    exact sv w hw
/-- a part tried, on both sides -/
theorem part_sr (st : oST W all b m M) (ht : t < nv W 9) (hf : fr M b t < nv W (376 + 103 * t + 22)) : oDD W (b + 81) (x_playPart (zm2 m 136 e (Int32.ofNat t)) t) ((ordP W b t M).1, (bif zc1 .eq (ordP W b t M).1 then (ordP W b t M).2.2 else zm2 (ordP W b t M).2.2 143 (b + 81 + 36 + t) (Int32.ofNat (bpn W t (fr M b t))))) := by
  obtain ⟨a1, a2, a3, a4, a5, a6⟩ := st
  have hN := a1.1.2.W.N4
  have h1 : LW (zm2 m 136 e (Int32.ofNat t)) W := a1.far (fun i l _ _ => zx_ne _ _ _ (by omega))
  have ep : mv (zm2 m 136 e (Int32.ofNat t)) 134 t = fr M b t := by
    unfold mv fr
    rw [zx_ne _ _ _ (by omega), a6.2.2.1 t ht]
  have en : pen (zm2 m 136 e (Int32.ofNat t)) 1 t (fr M b t) = bpn W t (fr M b t) := by
    unfold pen bpn
    rw [pend_eq_w h1 ht (by omega) hf]
  have hbp := bp_n a1.1.2.W (by omega) hf
  obtain ⟨-, -, -, c4⟩ := copyL_v (b := b) 81 0 M rfl
  unfold x_playPart ordP
  rw [ep, en]
  exact playL_sr ht (by omega) hbp.2.2 _ _ _ _ (by omega) h1 (a6.of a4 hN (fun c hc => c4 c (Nat.zero_le _) hc) (fun i l hi => zx_ne _ _ _ (by omega))) (copyL_OL a4)
theorem ordM_144 (hW : WG W) (ht : t < 4) (hO : OL M b) (hf : fr M b t < nv W (376 + 103 * t + 22)) : ordM W e b t M 144 e = Int32.ofNat t ∧ ∀ j, j ≠ e → ordM W e b t M 144 j = M 144 j := by
  have h24 := (hW.2 t ht).2.2.2.1.2.2
  have hbp := bp_n hW ht hf
  obtain ⟨-, c2, -, -⟩ := copyL_v (b := b) 81 0 M rfl
  obtain ⟨-, -, p3⟩ := playL_ok (e := 0) (all := 0) (b := b) (t := t) (f := 0) (q := bpn W t (fr M b t)) hW ht (by omega) (bpn W t (fr M b t) - fr M b t) (Int32.ofNat 1) (fr M b t) (l_copyL b 81 0 M).2 (by omega) (copyL_OL hO) (Or.inr rfl)
  refine ⟨zx_at _ _ _ _, fun j hj => ?_⟩
  unfold ordM
  rw [zx_nk _ _ hj, zx_ne _ _ _ (by omega)]
  exact (congrFun (p3.1 144 (by omega)) j).trans (congrFun (c2 144 (by omega)) j)
theorem l_orders_144 {rec : (Nat → Nat → Int32) → Int32 × (Nat → Nat → Int32)} (hW : WG W) (hrec : ∀ m', OL m' (b + 81) → LG m' W (b + 81) → OK3 (b + 81) m' (rec m')) (h144 : ∀ m', OL m' (b + 81) → LG m' W (b + 81) → ∀ j, j < e + 1 → (rec m').2 144 j = m' 144 j) : ∀ (n t : Nat) (M : Nat → Nat → Int32), t + n = nv W 9 → OL M b → LG M W b → ∀ j, j < e → (l_orders W e all b rec n t M).2 144 j = M 144 j := by
  have hN4 := hW.N4
  intro n
  induction n with
  | zero => intro t M _ _ _ _ _; rfl
  | succ n ih =>
    intro t M hk hO hL j hj
    unfold l_orders
    cases h1 : zc2 .ne (Int32.ofNat (fr M b t)) (Int32.ofNat (nv W (376 + 103 * t + 22))) with
    | false => exact ih (t + 1) M (by omega) hO hL j hj
    | true =>
      have hf : fr M b t < nv W (376 + 103 * t + 22) := by
        have := tne_t h1
        have := (hL t (by omega)).2
        omega
      obtain ⟨o1, o2, o3, o4, o5⟩ := ordM_ok (e := e) hW (by omega) hO hL hf
      have hr := hrec _ o1 o2
      have f3 : ∀ c, c < b + 81 → (rec (ordM W e b t M)).2 143 c = M 143 c := fun c hc => (hr.2.2 c (by omega)).trans (o3 c hc)
      have q2 := (ordM_144 (e := e) hW (by omega) hO hf).2 j (by omega)
      have q3 : (rec (ordM W e b t M)).2 144 j = M 144 j := (h144 _ o1 o2 j (by omega)).trans q2
      show (bif zc1 .eq (ordP W b t M).1 then l_orders W e all b rec n (t + 1) (ordM W e b t M) else bif zc1 .eq (rec (ordM W e b t M)).1 then l_orders W e all b rec n (t + 1) (rec (ordM W e b t M)).2 else (Int32.ofNat 1, (rec (ordM W e b t M)).2)).2 144 j = M 144 j
      exact cndi (fun q : Int32 × (Nat → Nat → Int32) => q.2 144 j = M 144 j) ((ih (t + 1) _ (by omega) (hO.of_fr o3) (hL.of_fr o3) j hj).trans q2) (cndi (fun q : Int32 × (Nat → Nat → Int32) => q.2 144 j = M 144 j) ((ih (t + 1) _ (by omega) (hO.of_fr f3) (hL.of_fr f3) j hj).trans q3) q3)
theorem orders_144 (hW : WG W) : ∀ (n e b : Nat) (M : Nat → Nat → Int32), e + n = all → b = 81 * e → OL M b → LG M W b → ∀ j, j < e → (q_orders W all n e M).2 144 j = M 144 j := by
  intro n
  induction n with
  | zero => intro e b M _ _ _ _ _ _; rfl
  | succ n ih =>
    intro e b M hk hb hO hL
    subst hb
    exact l_orders_144 (e := e) (all := all) (b := 81 * e) (rec := q_orders W all n (e + 1)) hW (fun m' h1 h2 => orders_ok hW n (e + 1) (81 * e + 81) m' (by omega) (by omega) h1 h2) (fun m' h1 h2 => ih (e + 1) (81 * e + 81) m' (by omega) (by omega) h1 h2) (nv W 9) 0 M (by omega) hO hL
theorem placeL_rs {rec recQ : (Nat → Nat → Int32) → Int32 × (Nat → Nat → Int32)} (hrec : ∀ m' M', oST W all (b + 81) m' M' → oRS all (e + 1) m' (rec m') (recQ M')) (hx : ∀ m', OJ m' (nv W 9) → OF3 m' (rec m')) (hq : ∀ M', OL M' (b + 81) → LG M' W (b + 81) → OK3 (b + 81) M' (recQ M')) (h144 : ∀ M', OL M' (b + 81) → LG M' W (b + 81) → ∀ j, j < e + 1 → (recQ M').2 144 j = M' 144 j) (hbd : ∀ M', OL M' (b + 81) → LG M' W (b + 81) → oBD W (b + 81) M' → (recQ M').1 = Int32.ofNat 0) : ∀ (n t : Nat) (m M : Nat → Nat → Int32), t + n = nv W 9 → oST W all b m M → (∀ w, w < 32 → m 133 (e * 32 + w) = m 132 w) → m 131 6 = o → oRS all e m (xl_placeL e o (nv W 9) rec n t m) (l_orders W e all b recQ n t M) := by
  intro n
  induction n with
  | zero => intro t m M _ _ _ _; exact ⟨Or.inr ⟨rfl, rfl, fun _ _ => ⟨rfl, rfl⟩⟩, fun _ _ => rfl, fun _ _ => rfl⟩
  | succ n ih =>
    intro t m M hk st sv ho
    have st' := st
    obtain ⟨a1, a2, a3, a4, a5, a6⟩ := st'
    have hW := a1.1.2.W
    have hN := hW.N4
    have ht : t < nv W 9 := by omega
    have e22 := n22_w a1 ht (by omega)
    have h24 := (hW.2 t (by omega)).2.2.2.1.2.2
    have ep : mv m 134 t = fr M b t := by
      unfold mv fr
      rw [a6.2.2.1 t ht]
    have hle := (a5 t (by omega)).2
    rw [xl_placeL, l_orders]
    by_cases hp : fr M b t = nv W (376 + 103 * t + 22)
    · rw [zclt_f (by omega) (by omega) (by omega), cnF, tne_ff hp, cnF]
      exact ih (t + 1) m M (by omega) st sv ho
    · have hf : fr M b t < nv W (376 + 103 * t + 22) := by omega
      rw [zclt (by omega) (by omega) (by omega), cnT, tne_tt (by omega) (by omega) hp, cnT]
      show oRS all e m (bif zc1 .eq (x_playPart (zm2 m 136 e (Int32.ofNat t)) t).1 then xl_placeL e o (nv W 9) rec n (t + 1) (rst m (x_playPart (zm2 m 136 e (Int32.ofNat t)) t).2 e t o) else bif zc1 .eq (rec (x_playPart (zm2 m 136 e (Int32.ofNat t)) t).2).1 then xl_placeL e o (nv W 9) rec n (t + 1) (rst m (rec (x_playPart (zm2 m 136 e (Int32.ofNat t)) t).2).2 e t o) else (Int32.ofNat 1, (rec (x_playPart (zm2 m 136 e (Int32.ofNat t)) t).2).2)) (bif zc1 .eq (ordP W b t M).1 then l_orders W e all b recQ n (t + 1) (ordM W e b t M) else bif zc1 .eq (recQ (ordM W e b t M)).1 then l_orders W e all b recQ n (t + 1) (recQ (ordM W e b t M)).2 else (Int32.ofNat 1, (recQ (ordM W e b t M)).2))
      have pd := part_sr (e := e) st ht hf
      obtain ⟨o1, o2, o3, o4, o5⟩ := ordM_ok (e := e) hW (by omega) a4 a5 hf
      obtain ⟨q1, q2⟩ := ordM_144 (e := e) hW (by omega) a4 hf
      have e143 : ∀ c, ordM W e b t M 143 c = zm2 (ordP W b t M).2.2 143 (b + 81 + 36 + t) (Int32.ofNat (bpn W t (fr M b t))) 143 c := fun c => congrFun (zm2_i _ _ (by decide)) c
      have hj1 : OJ (zm2 m 136 e (Int32.ofNat t)) (nv W 9) := a2.far (by omega) (by omega)
      have pp := playPart_o (t := t) hj1 (by omega) (pl_far (by omega) (show mv m 134 t < mv m (1 + 10 + 7 * t) 2 by omega))
      have fp : oFP t (zm2 m 136 e (Int32.ofNat t)) (x_playPart (zm2 m 136 e (Int32.ofNat t)) t).2 := playPL_fp _ _ _
      have g1 : OG m (zm2 m 136 e (Int32.ofNat t)) := OG.rf.put ⟨by omega, by omega, by omega⟩
      generalize x_playPart (zm2 m 136 e (Int32.ofNat t)) t = X at pd pp fp ⊢
      have hX : OJ X.2 (nv W 9) := pp.j hj1
      have gX : OG m X.2 := g1.tr pp.g
      have x3 : ∀ c, X.2 133 c = m 133 c := fun c => (fp 133 c (by omega) (by omega) (by omega) (by omega)).trans (zx_ne _ _ _ (by omega))
      have x4 : ∀ u, u ≠ t → X.2 134 u = m 134 u ∧ X.2 135 u = m 135 u := fun u hu => ⟨(fp 134 u (by omega) (by omega) (by omega) (by omega)).trans (zx_ne _ _ _ (by omega)), (fp 135 u (by omega) (by omega) (by omega) (by omega)).trans (zx_ne _ _ _ (by omega))⟩
      have x6 : X.2 136 e = Int32.ofNat t ∧ ∀ j, j ≠ e → X.2 136 j = m 136 j := ⟨(fp 136 e (by omega) (by omega) (by omega) (by omega)).trans (zx_at _ _ _ _), fun j hj => (fp 136 j (by omega) (by omega) (by omega) (by omega)).trans (zx_nk _ _ hj)⟩
      have r := hq _ o1 o2
      have r4 := h144 _ o1 o2
      have f3 : ∀ c, c < b + 81 → (recQ (ordM W e b t M)).2 143 c = M 143 c := fun c hc => (r.2.2 c (by omega)).trans (o3 c hc)
      have go : ∀ m'' M'' : Nat → Nat → Int32, OJ m'' (nv W 9) → OG m m'' → (∀ c, c < 32 * e + 32 → m'' 133 c = m 133 c) → (∀ u, u < 4 → u ≠ t → m'' 134 u = m 134 u ∧ m'' 135 u = m 135 u) → (∀ j, j < e → m'' 136 j = m 136 j) → (∀ c, c < b + 81 → M'' 143 c = M 143 c) → oRS all e m (xl_placeL e o (nv W 9) rec n (t + 1) (rst m m'' e t o)) (l_orders W e all b recQ n (t + 1) M'') := by
        intro m'' M'' b1 b2 b3 b4 b5 b6
        obtain ⟨s1, s2, s3, s4⟩ := back_st st sv ho ht b1 b2 b3 b4 b5 b6
        exact (ih (t + 1) _ _ (by omega) s1 s2 s3).tr s4
      have goX : ∀ M'' : Nat → Nat → Int32, (∀ c, c < b + 81 → M'' 143 c = M 143 c) → oRS all e m (xl_placeL e o (nv W 9) rec n (t + 1) (rst m X.2 e t o)) (l_orders W e all b recQ n (t + 1) M'') := fun M'' h => go X.2 M'' hX gX (fun c _ => x3 c) (fun u _ hu => x4 u hu) (fun j hj => x6.2 j (by omega)) h
      rcases pd with ⟨c1, c2, c3⟩ | ⟨c1, c2⟩
      · have c2' : (ordP W b t M).1 = Int32.ofNat 1 := c2
        have c3' : oSR W (b + 81) X.2 (bif zc1 .eq (ordP W b t M).1 then (ordP W b t M).2.2 else zm2 (ordP W b t M).2.2 143 (b + 81 + 36 + t) (Int32.ofNat (bpn W t (fr M b t)))) := c3
        rw [c2', zeq1', cnF] at c3'
        have oz : OL (zm2 (ordP W b t M).2.2 143 (b + 81 + 36 + t) (Int32.ofNat (bpn W t (fr M b t)))) (b + 81) := o1.of_fr (fun c _ => (e143 c).symm)
        have st2 : oST W all (b + 81) X.2 (ordM W e b t M) := ⟨a1.far (fun i l h1 h2 => gX.1 i l (by omega)), hX, (gX.2 7 (by omega)).trans a3, o1, o2, c3'.of oz hN (fun c _ => e143 _) (fun _ _ _ => rfl)⟩
        have xx := hx _ hX
        obtain ⟨w1, w2, w3⟩ := hrec _ _ st2
        rw [c1, zeq1', cnF, c2', zeq1', cnF]
        rcases w1 with ⟨u1, u2, u3⟩ | ⟨u1, u2, u3⟩
        · rw [u1, zeq1', cnF, u2, zeq1', cnF]
          refine ⟨Or.inl ⟨rfl, rfl, fun j h1 h2 => ?_⟩, fun j hj => ?_, fun c hc => ?_⟩
          · show (rec X.2).2 136 j = (recQ (ordM W e b t M)).2 144 j
            by_cases h : j = e
            · rw [h, w2 e (by omega), x6.1, r4 e (by omega), q1]
            · exact u3 j (by omega) h2
          · exact (w2 j (by omega)).trans (x6.2 j (by omega))
          · exact (w3 c (by omega)).trans (x3 c)
        · rw [u1, zeq0, cnT, u2, zeq0, cnT]
          exact go _ _ (xx.j hX) (gX.tr xx.g) (fun c hc => (w3 c (by omega)).trans (x3 c)) (fun u hu hut => ⟨(u3 u hu).1.trans (x4 u hut).1, (u3 u hu).2.trans (x4 u hut).2⟩) (fun j hj => (w2 j (by omega)).trans (x6.2 j (by omega))) f3
      · rw [c1, zeq0, cnT]
        have z0 : (ordP W b t M).1 = Int32.ofNat 0 → oRS all e m (xl_placeL e o (nv W 9) rec n (t + 1) (rst m X.2 e t o)) (bif zc1 .eq (ordP W b t M).1 then l_orders W e all b recQ n (t + 1) (ordM W e b t M) else bif zc1 .eq (recQ (ordM W e b t M)).1 then l_orders W e all b recQ n (t + 1) (recQ (ordM W e b t M)).2 else (Int32.ofNat 1, (recQ (ordM W e b t M)).2)) := by
          intro z
          rw [z, zeq0, cnT]
          exact goX _ o3
        rcases c2 with c2 | c2
        · exact z0 c2
        · rcases o5 with z | z
          · exact z0 z
          · have z' : (ordP W b t M).1 = Int32.ofNat 1 := z
            have c2' : oBD W (b + 81) (bif zc1 .eq (ordP W b t M).1 then (ordP W b t M).2.2 else zm2 (ordP W b t M).2.2 143 (b + 81 + 36 + t) (Int32.ofNat (bpn W t (fr M b t)))) := c2
            rw [z', zeq1', cnF] at c2'
            have hz := hbd _ o1 o2 (c2'.of (fun c _ _ => e143 _))
            rw [z', zeq1', cnF, hz, zeq0, cnT]
            exact goX _ f3
/-- from a level on, alike -/
theorem pf_rs (hal : all ≤ 10) : ∀ (n e b f : Nat) (m M : Nat → Nat → Int32), e + n = all → b = 81 * e → f + e = 10 → oST W all b m M → oRS all e m (x_pf (nv W 9) f e m) (q_orders W all n e M) := by
  intro n
  induction n with
  | zero =>
    intro e b f m M hk hb hf st
    subst hb
    obtain ⟨a1, a2, a3, a4, a5, a6⟩ := st
    have ec := came_eq a1 a6 a4
    have key : x_pf (nv W 9) f e m = (x_cameOut m, m) := by
      cases f with
      | zero => rfl
      | succ f =>
        show x_placeN m e (nv W 9) (x_pf (nv W 9) f (e + 1)) = _
        unfold x_placeN
        rw [a3, zcge (by omega) (by omega) (by omega), cnT]
    rw [key]
    show oRS all e m (x_cameOut m, m) (q_isAsNow M W (81 * e) (nv W 14), M)
    rw [← ec]
    rcases cameOut_b (m := m) with z | z
    · rw [z]
      exact ⟨Or.inr ⟨rfl, rfl, fun _ _ => ⟨rfl, rfl⟩⟩, fun _ _ => rfl, fun _ _ => rfl⟩
    · rw [z]
      exact ⟨Or.inl ⟨rfl, rfl, fun j h1 h2 => absurd h1 (by omega)⟩, fun _ _ => rfl, fun _ _ => rfl⟩
  | succ n ih =>
    intro e b f m M hk hb hf st
    obtain ⟨f, rfl⟩ : ∃ g, f = g + 1 := ⟨f - 1, by omega⟩
    obtain ⟨a1, a2, a3, a4, a5, a6⟩ := st
    have hW := a1.1.2.W
    have hN := hW.N4
    subst hb
    show oRS all e m (x_placeN m e (nv W 9) (x_pf (nv W 9) f (e + 1))) (l_orders W e all (81 * e) (q_orders W all n (e + 1)) (nv W 9) 0 M)
    unfold x_placeN
    rw [a3, zcge_f (by omega) (by omega) (by omega), cnF]
    have c : ∀ i l, i ≠ 133 → zcpy m 132 133 0 (e * 32) 32 i l = m i l := fun i l h => zcpy_ne h
    have st' : oST W all (81 * e) (zcpy m 132 133 0 (e * 32) 32) M := ⟨a1.far (fun i l h1 h2 => c i l (by omega)), a2.cpy, (c 131 7 (by omega)).trans a3, a4, a5, a6.of a4 hN (fun _ _ => rfl) (fun i l hi => c i l (by omega))⟩
    refine oRS.tr (placeL_rs (b := 81 * e) (e := e) (all := all) (rec := x_pf (nv W 9) f (e + 1)) (recQ := q_orders W all n (e + 1)) (fun m' M' s => ih (e + 1) (81 * e + 81) f m' M' (by omega) (by omega) (by omega) s) (fun m' hj => (pf_ok (σ := fun _ => (0, fun _ => 0)) (yy := (fun _ _ => 0, true, 0, 0)) hN f (e + 1) (by omega) m' hj).2) (fun M' h1 h2 => orders_ok hW n (e + 1) (81 * e + 81) M' (by omega) (by omega) h1 h2) (fun M' h1 h2 => orders_144 hW n (e + 1) (81 * e + 81) M' (by omega) (by omega) h1 h2) (fun M' h1 h2 h3 => orders_bd hW n (e + 1) (81 * e + 81) M' (by omega) (by omega) h1 h2 h3) (nv W 9) 0 _ M (by omega) st' (fun w hw => ?_) rfl) ⟨fun u _ => ⟨c 134 u (by omega), c 135 u (by omega)⟩, fun j _ => c 136 j (by omega), fun k hk2 => zcpy_out (Or.inl (by omega))⟩
    exact (zcpy_at (m := m) (a0 := 132) (a1 := 133) (s := 0) (p := e * 32) (n := 32) hw).trans ((congrArg (m 132) (Nat.zero_add w)).trans (c 132 w (by omega)).symm)
end ZSE
