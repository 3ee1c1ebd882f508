/-! sums, values and words stay between 0 and 9999 -/
noncomputable def vc (k : Nat) : Prop := (32 ≤ k ∧ k < 64) ∨ ∃ t c, t < 4 ∧ k = 376 + 103 * t + c ∧ (c = 1 ∨ c = 19 ∨ (23 ≤ c ∧ c ≤ 54))
noncomputable def SB (W : Nat → Int32) : Prop := ∀ k, vc k → ok W k 0 9999
noncomputable def vx (x : Int32) : Prop := ∃ n, n ≤ 9999 ∧ x = Int32.ofNat n
theorem ok.v {W : Nat → Int32} {k : Nat} (h : ok W k 0 9999) : vx (W k) := ⟨nv W k, h.2.2, h.1⟩
theorem SB.put {W : Nat → Int32} {k : Nat} {x : Int32} (h : SB W) (hk : vc k → vx x) : SB (upd W k x) := by
  intro j hj
  by_cases e : j = k
  · subst e
    obtain ⟨n, n1, n2⟩ := hk hj
    exact ok.is ((upd_at _ _ _).trans n2) (by omega) n1 (by omega)
  · exact (h j hj).of (upd_ne _ _ e)
theorem nvc_g {k : Nat} (h : k < 376) (h2 : k < 32 ∨ 64 ≤ k) : ¬ vc k := by
  intro q
  rcases q with q | ⟨t, c, _, e, _⟩ <;> omega
theorem nvc_t {t c : Nat} (ht : t < 4) (hc : c < 103) (h2 : c ≠ 1 ∧ c ≠ 19 ∧ ¬ (23 ≤ c ∧ c ≤ 54)) : ¬ vc (376 + 103 * t + c) := by
  intro q
  rcases q with q | ⟨u, d, hu, e, hd⟩
  · omega
  · omega
theorem SB.pg {W : Nat → Int32} {k : Nat} {x : Int32} (h : SB W) (h1 : k < 376) (h2 : k < 32 ∨ 64 ≤ k) : SB (upd W k x) := h.put (fun q => absurd q (nvc_g h1 h2))
theorem SB.pt {W : Nat → Int32} {t c : Nat} {x : Int32} (h : SB W) (ht : t < 4) (hc : c < 103) (h2 : c ≠ 1 ∧ c ≠ 19 ∧ ¬ (23 ≤ c ∧ c ≤ 54)) : SB (upd W (376 + 103 * t + c) x) := h.put (fun q => absurd q (nvc_t ht hc h2))
theorem SB.logs {W : Nat → Int32} {a c v : Int32} (h : SB W) (hC : WC W) : SB (q_logs W a c v) := by
  intro k hk
  refine (h k hk).of (logs_fr hC ?_ ?_)
  · rcases hk with q | ⟨t, c, _, e, _⟩ <;> omega
  · rcases hk with q | ⟨t, c, _, e, _⟩ <;> omega
theorem vct {t c : Nat} (ht : t < 4) (h : c = 1 ∨ c = 19 ∨ (23 ≤ c ∧ c ≤ 54)) : vc (376 + 103 * t + c) := Or.inr ⟨t, c, ht, rfl, h⟩
theorem SB.t {W : Nat → Int32} (h : SB W) {t c : Nat} (ht : t < 4) (hc : c = 1 ∨ c = 19 ∨ (23 ≤ c ∧ c ≤ 54)) : vx (W (376 + 103 * t + c)) := (h _ (vct ht hc)).v
theorem SB.w {W : Nat → Int32} (h : SB W) {w : Nat} (hw : w < 32) : vx (W (32 + w)) := (h _ (Or.inl (by omega))).v
theorem SB.ends {W : Nat → Int32} (h : SB W) {t : Nat} (ht : t < 4) : SB (q_ends W t) := by
  unfold q_ends
  exact ((((h.pt ht (by omega) (by omega)).pt ht (by omega) (by omega)).pt ht (by omega) (by omega)).pt ht (by omega) (by omega)).pt ht (by omega) (by omega)
theorem SB.falls {W : Nat → Int32} (h : SB W) (hw : WG W) {t y : Nat} (ht : t < 4) (hy : y < 5) : SB (q_falls W t y) := by
  have hl := (hw.L t ht).2
  unfold q_falls
  refine SB.logs ?_ (WC_of (by simp (disch := omega) only [q_ends, upd_ne]) hw.C)
  refine SB.ends ?_ ht
  refine SB.pg ?_ (by omega) (by omega)
  refine SB.pt ?_ ht (by omega) (by omega)
  refine SB.pt ?_ ht (by omega) (by omega)
  refine SB.pt ?_ ht (by omega) (by omega)
  have e : q_of (upd W (376 + 103 * t + 0) (q_of W t 18)) t 19 = W (376 + 103 * t + 19) := upd_ne _ _ (by omega)
  rw [e]
  exact (h.pt ht (by omega) (by omega)).put (fun _ => h.t ht (by omega))
theorem clearsL_sb {t s : Int32} {n9 : Nat} (hn : n9 ≤ 4) : ∀ (n k : Nat) (W : Nat → Int32), k + n = n9 → WG W → SB W → SB (l_clears t s n9 n k W).2 := by
  intro n
  induction n with
  | zero => intro k W _ _ h; exact h
  | succ n ih =>
    intro k W hk hw h
    rw [l_clears]
    exact cndi (fun q : Int32 × (Nat → Int32) => SB q.2) (ih _ _ (by omega) hw h) (ih _ _ (by omega) (hw.falls (by omega) (by omega)) (h.falls hw (by omega) (by omega)))
theorem SB.clears {W : Nat → Int32} {mm : Nat → Nat → Int32} (h : SB W) (hw : WG W) {t : Nat} (ht : t < 4) (s : Int32) : SB (q_clears mm W t s).2.1 := by
  unfold q_clears
  exact cndi (fun q : QT => SB q.2.1) (clearsL_sb hw.N4 _ _ _ (by omega) hw h) (h.falls hw ht (by omega))
theorem SB.reads {W : Nat → Int32} {mm : Nat → Nat → Int32} (h : SB W) (hw : WG W) {t : Nat} (ht : t < 4) (w : Int32) : SB (q_reads mm W t w).2.1 := by
  have h1 := h.clears (mm := mm) hw ht (q_clash W (Int32.ofNat t) (q_blockOf W w) (Int32.ofNat 0))
  unfold q_reads
  generalize q_clears mm W t (q_clash W (Int32.ofNat t) (q_blockOf W w) (Int32.ofNat 0)) = c at h1 ⊢
  exact cndi (fun q : QT => SB q.2.1) (cndi (fun q : QT => SB q.2.1) h1 (h1.pt ht (by omega) (by omega))) h1
theorem SB.writesB {W : Nat → Int32} {mm : Nat → Nat → Int32} (h : SB W) (hw : WG W) {t w : Nat} {v : Int32} (ht : t < 4) (hv : vx v) (b g : Int32) : SB (q_writesB mm W t w v b g).2.1 := by
  have h1 := h.clears (mm := mm) hw ht (q_clash W (Int32.ofNat t) b (Int32.ofNat 1))
  unfold q_writesB
  generalize q_clears mm W t (q_clash W (Int32.ofNat t) b (Int32.ofNat 1)) = c at h1 ⊢
  exact cndi (fun q : QT => SB q.2.1) (cndi (fun q : QT => SB q.2.1) (h1.put (fun _ => hv)) (((h1.pt ht (by omega) (by omega)).pt ht (by omega) (by omega)).put (fun _ => hv))) h1
theorem SB.writes {W : Nat → Int32} {mm : Nat → Nat → Int32} (h : SB W) (hw : WG W) {t w : Nat} {v : Int32} (ht : t < 4) (hv : vx v) : SB (q_writes mm W t w v).2.1 := by
  unfold q_writes
  exact cndi (fun q : QT => SB q.2.1) (h.writesB hw ht hv _ _) (cndi (fun q : QT => SB q.2.1) (h.writesB hw ht hv _ _) (cndi (fun q : QT => SB q.2.1) (h.writesB hw ht hv _ _) (h.falls hw ht (by omega))))
theorem SB.isTaken {W : Nat → Int32} (h : SB W) (hw : WG W) {t l : Nat} (ht : t < 4) (hl : l < 4) : SB (q_isTaken W t l) := by
  unfold q_isTaken
  have h2 : SB (upd (upd W (376 + 103 * t + 3) (Int32.ofNat 0)) (24 + l) (upd W (376 + 103 * t + 3) (Int32.ofNat 0) (24 + l) + Int32.ofNat 1)) := (h.pt ht (by omega) (by omega)).pg (by omega) (by omega)
  have C2 : WC (upd (upd W (376 + 103 * t + 3) (Int32.ofNat 0)) (24 + l) (upd W (376 + 103 * t + 3) (Int32.ofNat 0) (24 + l) + Int32.ofNat 1)) := WC_of (by simp (disch := omega) only [upd_ne]) hw.C
  exact cndi (fun q : Nat → Int32 => SB q) (h2.logs C2) ((h2.pg (by omega) (by omega)).logs (WC_of (upd_ne _ _ (by omega)) C2))
theorem SB.leavesOut {W : Nat → Int32} (h : SB W) {t l : Nat} (ht : t < 4) (hq : nv W (376 + 103 * t + 10) < 4) : SB (q_leavesOut W t l) := by
  unfold q_leavesOut
  exact (h.pt ht (by omega) (by omega)).pt ht (by omega) (by omega)
theorem SB.beginsGuess {W : Nat → Int32} (h : SB W) (hw : WG W) {t l : Nat} (ht : t < 4) (hq : nv W (376 + 103 * t + 10) < 4) : SB (q_beginsGuess W t l) := by
  unfold q_beginsGuess
  have e10 : ∀ a c d f g : Int32, nv (upd (upd (upd (upd (upd W (376 + 103 * t + 2) a) (376 + 103 * t + 18) c) (376 + 103 * t + 19) d) (376 + 103 * t + 20) f) (376 + 103 * t + 15) g) (376 + 103 * t + 10) = nv W (376 + 103 * t + 10) := fun a c d f g => nv_of (by simp (disch := omega) only [upd_ne])
  refine SB.logs (SB.leavesOut ?_ ht (by rw [e10]; exact hq)) ?_
  · refine SB.pt ?_ ht (by omega) (by omega)
    refine SB.pt ?_ ht (by omega) (by omega)
    refine SB.put ?_ (fun _ => ?_)
    · exact (h.pt ht (by omega) (by omega)).pt ht (by omega) (by omega)
    · have e : q_of (upd (upd W (376 + 103 * t + 2) (Int32.ofNat 1)) (376 + 103 * t + 18) (q_of (upd W (376 + 103 * t + 2) (Int32.ofNat 1)) t 0)) t 1 = W (376 + 103 * t + 1) := by
        unfold q_of
        rw [upd_ne _ _ (by omega), upd_ne _ _ (by omega)]
      rw [e]
      exact h.t ht (by omega)
  · unfold q_leavesOut
    rw [e10]
    exact WC_of (by simp (disch := omega) only [upd_ne]) hw.C
theorem svn {n : Nat} (h : n ≤ 9999) : vx (Int32.ofNat n) := ⟨n, h, rfl⟩
theorem isKept_sb {t l : Nat} (ht : t < 4) (hl : l < 4) : ∀ (n k : Nat) (W : Nat → Int32), k + n = 32 → WC W → SB W → SB (l_isKept t l n k W) := by
  intro n
  induction n with
  | zero =>
    intro k W _ C h
    rw [l_isKept]
    refine SB.logs (SB.ends ?_ ht) (WC_of (by simp (disch := omega) only [q_ends, upd_ne]) C)
    exact (((h.pg (by omega) (by omega)).pg (by omega) (by omega)).pt ht (by omega) (by omega)).pt ht (by omega) (by omega)
  | succ n ih =>
    intro k W hk C h
    rw [l_isKept]
    exact cndi (fun q : Nat → Int32 => SB q) (ih _ _ (by omega) C h) (ih _ _ (by omega) (WC_of (upd_ne _ _ (by omega)) C) (h.put (fun _ => h.t ht (by omega))))
noncomputable def SQb (q : QT) : Prop := SB q.2.1
theorem takes_sb {W : Nat → Int32} {mm : Nat → Nat → Int32} {t l : Nat} (h : SB W) (hk : KG W t) (ht : t < 4) (hl : l < 4) : SQb (q_takes mm W t l) := by
  have r := h.reads (mm := mm) hk.1 ht (Int32.ofNat (nv W (16 + l)))
  have k := hk.reads (m := mm) ht (Int32.ofNat (nv W (16 + l)))
  unfold q_takes
  generalize q_reads mm W t (Int32.ofNat (nv W (16 + l))) = c at r k ⊢
  refine cndi SQb ?_ r
  have F : ∀ f : Int32, SQb (q_takesC c.2.2 c.2.1 t l (nv W (16 + l)) f) := by
    intro f
    have aD : SQb (q_takesD c.2.2 c.2.1 t l (nv W (16 + l)) f) := by
      unfold q_takesD
      exact cndi SQb (r.falls k.1 ht (by omega)) (r.falls k.1 ht (by omega))
    have w := r.writes (mm := c.2.2) (w := nv W (16 + l)) k.1 ht (svn (show 1 ≤ 9999 by omega))
    have kw := (k.writes (m := c.2.2) (w := nv W (16 + l)) ht (hk.1.lk32 hl) (Int32.ofNat 1)).1
    unfold q_takesC
    refine cndh SQb (fun h1 => ?_) (fun h1 => ?_)
    · exact cndi SQb (cndi SQb (w.isTaken kw ht hl) (cndi SQb (w.isTaken kw ht hl) (r.beginsGuess k.1 ht (k.1.idle ht h1)))) r
    · exact cndi SQb aD (cndi SQb (cndh SQb (fun h2 => r.leavesOut ht (zlt4 k.1 ht h2)) (fun _ => w)) aD)
  unfold q_takesB
  exact cndi SQb (F _) (F _)
theorem drops_sb {W : Nat → Int32} {mm : Nat → Nat → Int32} {t l : Nat} (h : SB W) (hk : KG W t) (ht : t < 4) (hl : l < 4) : SQb (q_drops mm W t l) := by
  have w := h.writes (mm := mm) (w := nv W (16 + l)) hk.1 ht (svn (show 0 ≤ 9999 by omega))
  have kw := (hk.writes (m := mm) (w := nv W (16 + l)) ht (hk.1.lk32 hl) (Int32.ofNat 0)).1
  unfold q_drops
  exact cndi SQb (cndi SQb (cndi SQb (h.pt ht (by omega) (by omega)) (isKept_sb ht hl _ _ _ rfl hk.1.C h)) (h.falls hk.1 ht (by omega))) (cndi SQb (cndi SQb (w.logs kw.C) w) (cndi SQb w w))
theorem seen_v {W : Nat → Int32} {t w : Nat} (h : SB W) (ht : t < 4) (hw : w < 32) : vx (q_seen W t w) := by
  unfold q_seen
  exact cndi vx (h.w hw) (h.t ht (by omega))
theorem vx_plus {x : Int32} {n : Nat} (h : vx x) (hn : n ≤ 999) : vx ((x + Int32.ofNat n) - (x + Int32.ofNat n) / Int32.ofNat 10000 * Int32.ofNat 10000) := by
  obtain ⟨a, h1, e⟩ := h
  rw [e, i_add]
  have hd : Int32.ofNat (a + n) / Int32.ofNat 10000 = Int32.ofNat ((a + n) / 10000) := by
    apply Int32.toInt_inj.mp
    rw [Int32.toInt_div_of_ne_left, zoN (by omega), zoN (by omega), zoN (by omega)]
    · rw [Int.tdiv_eq_ediv_of_nonneg (by omega)]
      rfl
    · intro q
      have z := congrArg Int32.toInt q
      rw [zoN (by omega)] at z
      have m1 : Int32.minValue.toInt = -2147483648 := by decide
      omega
  have hc : (a + n) / 10000 = 0 ∨ (a + n) / 10000 = 1 := by omega
  rw [hd]
  rcases hc with q | q
  · rw [q]
    refine ⟨a + n, by omega, ?_⟩
    rw [show Int32.ofNat 0 * Int32.ofNat 10000 = Int32.ofNat 0 from by decide, i_sub (by omega)]
    rfl
  · rw [q]
    refine ⟨a + n - 10000, by omega, ?_⟩
    rw [show Int32.ofNat 1 * Int32.ofNat 10000 = Int32.ofNat 10000 from by decide, i_sub (by omega)]
theorem does_sb {W : Nat → Int32} {mm : Nat → Nat → Int32} {t K n : Nat} (h : SB W) (hk : KG W t) (ht : t < 4) (hn1 : K ≤ 1 → n ≤ 3) (hn3 : K ≤ 3 → n ≤ 31) (hn : n ≤ 999) : SQb (q_does mm W t K n) := by
  match K, hn1, hn3 with
  | 0, hn1, _ => exact takes_sb h hk ht (Nat.lt_succ_of_le (hn1 (by omega)))
  | 1, hn1, _ => exact drops_sb h hk ht (Nat.lt_succ_of_le (hn1 (by omega)))
  | 2, _, hn3 =>
    have r := h.reads (mm := mm) hk.1 ht (Int32.ofNat n)
    have n32 := hn3 (by omega)
    show SQb (q_does2 mm W t n)
    unfold q_does2
    generalize q_reads mm W t (Int32.ofNat n) = c at r ⊢
    exact cndi SQb (r.put (fun _ => seen_v r ht (by omega))) r
  | 3, _, _ => exact h.writes (mm := mm) hk.1 ht (h.t ht (by omega))
  | 4, _, _ => exact h.put (fun _ => svn (by omega))
  | 5, _, _ => exact h.put (fun _ => vx_plus (h.t ht (by omega)) hn)
  | 6, _, _ =>
    show SB (q_works W t (Int32.ofNat n)).2
    unfold q_works
    exact cndi (fun q : Int32 × (Nat → Int32) => SB q.2) ((h.pt ht (by omega) (by omega)).pt ht (by omega) (by omega)) (h.pt ht (by omega) (by omega))
  | k + 7, _, _ =>
    have e : q_does mm W t (k + 7) n = q_putsOut mm W t := by
      cases k <;> rfl
    rw [e]
    have o14 := hk.1.1.2.2.2.2.1.2.2
    unfold q_putsOut
    refine cndi SQb (cndh SQb (fun _ => h.logs hk.1.C) (fun hz => ?_)) (h.falls hk.1 ht (by omega))
    have h20 : nv W 14 < 20 := by
      rw [zge_n] at hz
      cases hq : zc2 .lt (Int32.ofNat (nv W 14)) (Int32.ofNat 20) with
      | true => exact zlt_t (by omega) (by omega) hq
      | false => rw [hq] at hz; exact absurd hz (by decide)
    refine SB.logs ?_ (WC_of (by simp (disch := omega) only [upd_ne]) hk.1.C)
    exact ((h.pg (by omega) (by omega)).pg (by omega) (by omega)).pg (by omega) (by omega)
theorem stepsE_sb {W : Nat → Int32} {mm : Nat → Nat → Int32} {t : Nat} {on : Int32} (h : SB W) : SB (q_stepsE mm W t on).2 := by
  have h2 : SB (upd (upd W 12 (Int32.ofNat t)) 11 (upd W 12 (Int32.ofNat t) 11 + Int32.ofNat 1)) := (h.pg (by omega) (by omega)).pg (by omega) (by omega)
  unfold q_stepsE
  exact cndi (fun q : Int32 × (Nat → Int32) => SB q.2) (cndi (fun q : Int32 × (Nat → Int32) => SB q.2) h2 h2) h2
theorem stepsD_sb {W : Nat → Int32} {mm : Nat → Nat → Int32} {t : Nat} {on : Int32} (h : SB W) (hw : WG W) (ht : t < 4) : SQb (q_stepsD mm W t on) := by
  unfold q_stepsD
  exact cndi SQb (stepsE_sb h) (cndi SQb (stepsE_sb (h.logs hw.C)) (stepsE_sb (h.falls hw ht (by omega))))
theorem steps_sb {W : Nat → Int32} {mm : Nat → Nat → Int32} {t : Nat} (h : SB W) (hk : KG W t) (ht : t < 4) : SQb (q_steps mm W t) := by
  obtain ⟨d24, D1, D2, D3, D4⟩ := hk.deed ht
  have d := does_sb (mm := zm2 mm 137 5 (Int32.ofNat 0)) h hk ht D3 D4 D2.2.2
  have k := (does_ok (m := zm2 mm 137 5 (Int32.ofNat 0)) (n := nv W (376 + 103 * t + (55 + 2 * nv W (376 + 103 * t + 0) + 1))) hk ht (K := nv W (376 + 103 * t + (55 + 2 * nv W (376 + 103 * t + 0)))) (by have := D1.2.2; omega) D3 D4).1
  unfold q_steps
  generalize q_does (zm2 mm 137 5 (Int32.ofNat 0)) W t (nv W (376 + 103 * t + (55 + 2 * nv W (376 + 103 * t + 0)))) (nv W (376 + 103 * t + (55 + 2 * nv W (376 + 103 * t + 0) + 1))) = c at d k ⊢
  have d' : SB c.2.1 := d
  exact cndi SQb (stepsE_sb d') (stepsD_sb (d'.pt ht (by omega) (by omega)) (k.adv ht) ht)
/-- the whole of a step: alike, and all bounds kept -/
noncomputable def WY (W : Nat → Int32) : Prop := WX W ∧ SB W
theorem step_ry {m mm : Nat → Nat → Int32} {b : Nat} {W : Nat → Int32} {t : Nat} (h : RC m b W) (hy : WY W) (hc : CG m b) (ht : t < nv W 9) (hA : AL W t) : (x_takeStep m b t).1 = (q_steps mm W t).1 ∧ RC (x_takeStep m b t).2 b (q_steps mm W t).2.1 ∧ WY (q_steps mm W t).2.1 ∧ CG (x_takeStep m b t).2 b := by
  have h4 := hy.1.W.N4
  obtain ⟨a, b', c, d⟩ := step_rx (mm := mm) h hy.1 hc ht hA (hy.2 _ (vct (by omega) (by omega)))
  exact ⟨a, b', ⟨c, steps_sb hy.2 ⟨hy.1.W, hA⟩ (by omega)⟩, d⟩
