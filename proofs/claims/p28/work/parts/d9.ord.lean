def x_pf (n5 : Nat) : Nat → Nat → (Nat → Nat → Int32) → Int32 × (Nat → Nat → Int32)
  | 0, _, m => (x_cameOut m, m)
  | n + 1, k, m => x_placeN m k n5 (x_pf n5 n (k + 1))
def OG (m M : Nat → Nat → Int32) : Prop := (∀ i l, i < 131 ∨ 137 ≤ i → M i l = m i l) ∧ ∀ l, l ≠ 6 → M 131 l = m 131 l
section ZPF
variable {m M M2 : Nat → Nat → Int32} {k t n5 : Nat} {o : Int32} {X : Int32 × (Nat → Nat → Int32)}
theorem OG.rf : OG m m := ⟨fun _ _ _ => rfl, fun _ _ => rfl⟩
theorem OG.tr (h : OG m M) (h2 : OG M M2) : OG m M2 := ⟨fun i l hi => (h2.1 i l hi).trans (h.1 i l hi), fun l hl => (h2.2 l hl).trans (h.2 l hl)⟩
theorem OF3.g (h : OF3 m X) : OG m X.2 := ⟨h.2.1, h.2.2.1⟩
theorem OF3.tr (h : OG m M) (h2 : OF3 M X) : OF3 m X := ⟨h2.1, (h.tr h2.g).1, (h.tr h2.g).2, h2.2.2.2⟩
theorem OG.put {a l : Nat} {x : Int32} (h : OG m M) (ha : 131 ≤ a ∧ a < 137 ∧ (a ≠ 131 ∨ l = 6)) : OG m (zm2 M a l x) := h.tr ⟨fun i q hi => zx_ne _ _ _ (by omega), fun q hq => zx_o _ _ (by omega)⟩
theorem OG.cp {a0 a1 s p n : Nat} (h : OG m M) (ha : 132 ≤ a1 ∧ a1 < 137) : OG m (zcpy M a0 a1 s p n) := h.tr ⟨fun i q hi => zcpy_ne (by omega), fun q hq => zcpy_ne (by omega)⟩
theorem rst_g {m' : Nat → Nat → Int32} (h : OG m' M) : OG m' (rst m M k t o) := by
  unfold rst
  exact (((h.cp ⟨by omega, by omega⟩).put ⟨by omega, by omega, by omega⟩).put ⟨by omega, by omega, by omega⟩).put ⟨by omega, by omega, by omega⟩
theorem placeL_o {rec : (Nat → Nat → Int32) → Int32 × (Nat → Nat → Int32)} (hn5 : n5 ≤ 4) (hrec : ∀ m', OJ m' n5 → OF3 m' (rec m')) : ∀ (n t : Nat) (m : Nat → Nat → Int32), t + n = n5 → OJ m n5 → OF3 m (xl_placeL k o n5 rec n t m) := by
  intro n
  induction n with
  | zero => intro t m ht hj; exact ⟨Or.inl rfl, OG.rf.1, OG.rf.2, hj.2.2.1⟩
  | succ n ih =>
    intro t m htn hj
    rw [xl_placeL]
    refine cnd4 (OF3 m) (fun h1 => ?_) (fun _ => ih (t + 1) m (by omega) hj)
    have hpl := zlt_t (by have := (hj.2.2.1 t (by omega)).2; omega) (by have := (hj.2.1.1 t (by omega)).1.2; omega) h1
    have hj1 : OJ (zm2 m 136 k (Int32.ofNat t)) n5 := hj.far (by omega) (by omega)
    have g1 : OG m (zm2 m 136 k (Int32.ofNat t)) := OG.rf.put ⟨by omega, by omega, by omega⟩
    have pp := playPart_o (t := t) hj1 (by omega) (pl_far (by omega) hpl)
    generalize x_playPart (zm2 m 136 k (Int32.ofNat t)) t = Y at pp ⊢
    have hY := pp.j hj1
    have gY := g1.tr pp.g
    refine cnd4 (OF3 m) (fun _ => ?_) (fun _ => ?_)
    · exact OF3.tr (rst_g (m := m) (k := k) (t := t) (o := o) gY) (ih (t + 1) _ (by omega) (rst_j hj hY (by omega)))
    · have hr := hrec _ hY
      generalize rec Y.2 = Z at hr ⊢
      have gZ := gY.tr hr.g
      exact cnd4 (OF3 m) (fun _ => OF3.tr (rst_g (m := m) (k := k) (t := t) (o := o) gZ) (ih (t + 1) _ (by omega) (rst_j hj (hr.j hY) (by omega)))) (fun _ => ⟨Or.inr rfl, gZ.1, gZ.2, hr.2.2.2⟩)
theorem pf_ok {σ : Nat → Nat × (Nat → Int32)} {yy : (Nat → Nat → Int64) × Bool × Nat × Nat} (hn5 : n5 ≤ 4) : ∀ (n k : Nat), k + n = 10 → ∀ m, OJ m n5 → zF σ (n + 5) 804 [.ref 131, .int (Int32.ofNat k)] (zS1, m, yy) (.inl (some (.int (x_pf n5 n k m).1))) (zS1, (x_pf n5 n k m).2, yy) ∧ OF3 m (x_pf n5 n k m) := by
  intro n
  induction n with
  | zero =>
    intro k hk m hj
    refine ⟨fun d hd => ?_, cameOut_b, OG.rf.1, OG.rf.2, hj.2.2.1⟩
    obtain ⟨d, rfl⟩ : ∃ k, d = k + 1 := ⟨d - 1, by omega⟩
    have h := xp_placeE (σ := σ) (yy := yy) (m := m) (k := k) (d := d) (by omega) (by omega)
    have e : x_placeE m k = x_cameOut m := by
      unfold x_placeE
      exact cndi (fun q : Int32 => q = x_cameOut m) rfl rfl
    rw [e] at h
    exact h
  | succ n ih =>
    intro k hk m hj
    refine ⟨fun d hd => ?_, ?_⟩
    · obtain ⟨d, rfl⟩ : ∃ k, d = k + 1 := ⟨d - 1, by omega⟩
      exact xp_placeN (hr := n + 5) (by omega) (by omega) hn5 (by omega) (ih (k + 1) (by omega)) hj
    · show OF3 m (x_placeN m k n5 (x_pf n5 n (k + 1)))
      unfold x_placeN
      have hrec : ∀ m', OJ m' n5 → OF3 m' (x_pf n5 n (k + 1) m') := fun m' h => (ih (k + 1) (by omega) m' h).2
      exact cnd4 (OF3 m) (fun _ => ⟨cameOut_b, OG.rf.1, OG.rf.2, hj.2.2.1⟩) (fun _ => OF3.tr (OG.rf.cp ⟨by omega, by omega⟩) (placeL_o hn5 hrec _ _ _ (by omega) hj.cpy))
theorem OJ.p0 {x : Int32} (h : OJ m n5) (ht : t < 4) : OJ (zm2 (zm2 (zm2 m 131 7 x) 134 t (Int32.ofNat 0)) 135 t (Int32.ofNat 0)) n5 := by
  refine OJ.far (OJ.of (h.far (a := 131) (k := 7) (x := x) (by omega) (by omega)) (fun i l hi => zx_ne _ _ _ (by omega)) (fun u hu => ?_)) (by omega) (by omega)
  by_cases e : u = t
  · subst e
    exact okm.is (zx_at _ _ _ _) (by omega) (by omega)
  · exact (h.2.2.1 u hu).of ((zx_nk _ _ e).trans (zx_ne _ _ _ (by omega)))
theorem OJ.told (h : OJ m n5) : OJ (zcpy (zm2 m 131 6 (Int32.ofNat 0)) (1 + 2) 132 0 0 32) n5 := OJ.of (h.far (a := 131) (k := 6) (x := Int32.ofNat 0) (by omega) (by omega)) (fun i l hi => zcpy_ne (by omega)) (fun u hu => ((h.far (a := 131) (k := 6) (x := Int32.ofNat 0) (by omega) (by omega)).2.2.1 u hu).of (zcpy_ne (by omega)))
end ZPF
def xl_searchL (n5 : Nat) : Nat → Nat → (Nat → Nat → Int32) → (Nat → Nat → Int32)
  | 0, t, m => (bif zc2 .gt (m 131 7) (Int32.ofNat 10) then m else (bif zc1 .ne (x_mDoneX m 1) then (zm2 ((x_pf n5 10 0 ((zcpy ((zm2 m 131 6 (Int32.ofNat 0))) ((1 + 2)) 132 0 0 32))).2) 131 9 (x_pf n5 10 0 ((zcpy ((zm2 m 131 6 (Int32.ofNat 0))) ((1 + 2)) 132 0 0 32))).1) else m))
  | n + 1, t, m => (xl_searchL n5 n ((t + 1)) ((zm2 ((zm2 ((zm2 m 131 7 ((m 131 7) + (x_partCount m 1 t)))) 134 t (Int32.ofNat 0))) 135 t (Int32.ofNat 0))))
theorem xw_searchL {σ : Nat → Nat × (Nat → Int32)} {yy : (Nat → Nat → Int64) × Bool × Nat × Nat} {n5 : Nat} {d : Nat} (hd : 16 ≤ d + 1) (hn5 : n5 ≤ 4) : ∀ (n : Nat) (t : Nat) (m : Nat → Nat → Int32), t + n = n5 → OJ m n5 → zEv σ (d + 1) 803 17 [some (.ref 131), some (.int (Int32.ofNat t))] [] (zS1, m, yy) (.inl none) (zS1, ((xl_searchL n5 n t m)), yy) := by
  intro n
  induction n with
  | zero =>
    intro t m hk hj
    refine zeP rfl rfl ?_
    refine zeP rfl rfl ?_
    refine zeGR rfl rfl zS131 rfl rfl ?_
    refine zeGI rfl rfl (shM bb1) rfl rfl ?_
    rw [hj.2.2.2]
    refine zeT2 rfl rfl (zcge (by omega) (by omega) (by omega)) ?_
    refine zeP rfl rfl ?_
    refine zeGI rfl rfl zS131 rfl rfl ?_
    refine zeKn (c := 10) rfl rfl rfl ?_
    refine zeB2 rfl rfl (fun h1 => ?_) (fun h1 => ?_)
    · exact zeRe rfl rfl rfl rfl (by simp only [xl_searchL, h1, cond_true, cond_false] <;> rfl) (by simp only [xl_searchL, h1, cond_true, cond_false] <;> rfl)
    · refine zeP rfl rfl ?_
      refine zeGR rfl rfl zS131 rfl rfl ?_
      refine zeK (v := -1) rfl rfl rfl ?_
      refine zeCV rfl rfl rfl rfl (shM bb1) rfl (xc_mDoneX (m := m) (b := 1) bb1 hj.1 hj.2.1.2.1) (by omega) ?_
      dsimp only [Option.toList, List.cons_append, List.nil_append]
      refine zeB1 rfl rfl (fun h2 => ?_) (fun h2 => ?_)
      · refine zeP rfl rfl ?_
        refine zeKn (c := 0) rfl rfl rfl ?_
        refine zePI rfl rfl zS131 rfl ?_
        refine zeP rfl rfl ?_
        refine zeGR rfl rfl zS131 rfl rfl ?_
        refine zeGR rfl rfl (shM bb1) rfl rfl ?_
        refine zeKn (c := 0) rfl rfl rfl ?_
        refine zeP rfl rfl ?_
        refine zeGR rfl rfl zS131 rfl rfl ?_
        refine zeKn (c := 0) rfl rfl rfl ?_
        refine zeKn (c := 32) rfl rfl rfl ?_
        refine zeCPY rfl rfl (shT bb1) zS132 (by omega) (by omega) (by omega) (by omega) rfl ?_
        refine zeP rfl rfl ?_
        refine zeP rfl rfl ?_
        refine zeKn (c := 0) rfl rfl rfl ?_
        refine zeCV rfl rfl rfl rfl zS131 rfl ((pf_ok hn5 10 0 rfl ((zcpy ((zm2 m 131 6 (Int32.ofNat 0))) ((1 + 2)) 132 0 0 32)) hj.told).1) (by omega) ?_
        dsimp only [Option.toList, List.cons_append, List.nil_append]
        refine zePB rfl rfl zS131 rfl (pf_ok (σ := σ) (yy := yy) hn5 10 0 rfl _ hj.told).2.1 ?_
        exact zeRe rfl rfl rfl rfl (by simp only [xl_searchL, h1, h2, cond_true, cond_false] <;> rfl) (by simp only [xl_searchL, h1, h2, cond_true, cond_false] <;> rfl)
      · exact zeRe rfl rfl rfl rfl (by simp only [xl_searchL, h1, h2, cond_true, cond_false] <;> rfl) (by simp only [xl_searchL, h1, h2, cond_true, cond_false] <;> rfl)
  | succ n ih =>
    intro t m hk hj
    refine zeP rfl rfl ?_
    refine zeP rfl rfl ?_
    refine zeGR rfl rfl zS131 rfl rfl ?_
    refine zeGI rfl rfl (shM bb1) rfl rfl ?_
    rw [hj.2.2.2]
    refine zeF2 rfl rfl (zcge_f (by omega) (by omega) (by omega)) ?_
    refine zeP rfl rfl ?_
    refine zeKn (c := 4) rfl rfl rfl ?_
    refine zeF2 rfl rfl (zcge_f (by omega) (by omega) (by omega)) ?_
    refine zeP rfl rfl ?_
    refine zeP rfl rfl ?_
    refine zeGI rfl rfl zS131 rfl rfl ?_
    refine zeP rfl rfl ?_
    refine zeGR rfl rfl zS131 rfl rfl ?_
    refine zeP rfl rfl ?_
    refine zeCV rfl rfl rfl rfl (shM bb1) rfl (xc_strandAt (m := m) (b := 1) (t := t) bb1 (by omega)) (by omega) ?_
    dsimp only [Option.toList, List.cons_append, List.nil_append]
    refine zeCV rfl rfl rfl rfl (shS bb1 (by omega)) rfl (xc_partCount (m := m) (b := 1) (t := t) bb1 (by omega) (hj.2.1.1 t (by omega))) (by omega) ?_
    dsimp only [Option.toList, List.cons_append, List.nil_append]
    refine zeP rfl rfl ?_
    refine zePI rfl rfl zS131 rfl ?_
    refine zeP rfl rfl ?_
    refine zeGR rfl rfl zS131 rfl rfl ?_
    refine zeP rfl rfl ?_
    refine zeKn (c := 0) rfl rfl rfl ?_
    refine zeAS (k := t) rfl zS134 rfl (by omega) ?_
    refine zeP rfl rfl ?_
    refine zeGR rfl rfl zS131 rfl rfl ?_
    refine zeP rfl rfl ?_
    refine zeKn (c := 0) rfl rfl rfl ?_
    refine zeAS (k := t) rfl zS135 rfl (by omega) ?_
    refine zeInc rfl rfl ?_
    refine zeP rfl rfl ?_
    simp only [xl_searchL, cond_true, cond_false]
    exact ih ((t + 1))  ((zm2 ((zm2 ((zm2 m 131 7 ((m 131 7) + (x_partCount m 1 t)))) 134 t (Int32.ofNat 0))) 135 t (Int32.ofNat 0))) (by omega) (hj.p0 (by omega))
def x_search (m : Nat → Nat → Int32) (n5 : Nat) : (Nat → Nat → Int32) := (xl_searchL n5 n5 0 ((zm2 ((zm2 ((zm2 m 131 8 (Int32.ofNat 1))) 131 9 (Int32.ofNat 0))) 131 7 (Int32.ofNat 0))))
theorem xp_search {σ : Nat → Nat × (Nat → Int32)} {yy : (Nat → Nat → Int64) × Bool × Nat × Nat} {m : Nat → Nat → Int32} {n5 : Nat} {d : Nat} (hd : 16 ≤ d + 1) (hn5 : n5 ≤ 4) (hj : OJ m n5) : zEv σ (d + 1) 803 0 [some (.ref 131), none] [] (zS1, m, yy) (.inl none) (zS1, ((x_search m n5)), yy) := by
  refine zeP rfl rfl ?_
  refine zeKn (c := 1) rfl rfl rfl ?_
  refine zePB rfl rfl zS131 rfl (by decide) ?_
  refine zeP rfl rfl ?_
  refine zeKn (c := 0) rfl rfl rfl ?_
  refine zePB rfl rfl zS131 rfl (by decide) ?_
  refine zeP rfl rfl ?_
  refine zeKn (c := 0) rfl rfl rfl ?_
  refine zePI rfl rfl zS131 rfl ?_
  refine zeKn (c := 0) rfl rfl rfl ?_
  refine zeP rfl rfl ?_
  simp only [x_search, cond_true, cond_false]
  exact xw_searchL (n5 := n5) (by omega) hn5 n5 (0)  ((zm2 ((zm2 ((zm2 m 131 8 (Int32.ofNat 1))) 131 9 (Int32.ofNat 0))) 131 7 (Int32.ofNat 0))) (by omega) (((hj.far (by omega) (by omega)).far (by omega) (by omega)).far (by omega) (by omega))
theorem xc_search {σ : Nat → Nat × (Nat → Int32)} {yy : (Nat → Nat → Int64) × Bool × Nat × Nat} {m : Nat → Nat → Int32} {n5 : Nat} (hn5 : n5 ≤ 4) (hj : OJ m n5) : zF σ 16 803 [.ref 131] (zS1, m, yy) (.inl none) (zS1, ((x_search m n5)), yy) := by
  intro d hd
  obtain ⟨d, rfl⟩ : ∃ k, d = k + 1 := ⟨d - 1, by omega⟩
  exact xp_search hd hn5 hj
def x_threadOf (m : Nat → Nat → Int32) (k : Int32) : Int32 := (bif zc1 .eq (m 131 9) then (-1) else (bif zc1 .lt k then (-1) else (bif zc2 .ge k (m 131 7) then (-1) else (bif zc2 .ge k (Int32.ofNat 10) then (-1) else (m 136 ((k.toNatClampNeg)))))))
theorem xp_threadOf {σ : Nat → Nat × (Nat → Int32)} {yy : (Nat → Nat → Int64) × Bool × Nat × Nat} {m : Nat → Nat → Int32} {k : Int32} {d : Nat} (hd : 1 ≤ d + 1) : zEv σ (d + 1) 802 0 [some (.ref 131), some (.int k)] [] (zS1, m, yy) (.inl (some (.int (x_threadOf m k)))) (zS1, m, yy) := by
  refine zeP rfl rfl ?_
  refine zeGI rfl rfl zS131 rfl rfl ?_
  refine zeB1 rfl rfl (fun h1 => ?_) (fun h1 => ?_)
  · refine zeK (v := -1) rfl rfl rfl ?_
    exact zeRe rfl rfl rfl rfl (by simp only [x_threadOf, h1, cond_true, cond_false] <;> rfl) (by simp only [x_threadOf, h1, cond_true, cond_false] <;> rfl)
  · refine zeP rfl rfl ?_
    refine zeB1 rfl rfl (fun h2 => ?_) (fun h2 => ?_)
    · refine zeK (v := -1) rfl rfl rfl ?_
      exact zeRe rfl rfl rfl rfl (by simp only [x_threadOf, h1, h2, cond_true, cond_false] <;> rfl) (by simp only [x_threadOf, h1, h2, cond_true, cond_false] <;> rfl)
    · refine zeP rfl rfl ?_
      refine zeP rfl rfl ?_
      refine zeGI rfl rfl zS131 rfl rfl ?_
      refine zeB2 rfl rfl (fun h3 => ?_) (fun h3 => ?_)
      · refine zeK (v := -1) rfl rfl rfl ?_
        exact zeRe rfl rfl rfl rfl (by simp only [x_threadOf, h1, h2, h3, cond_true, cond_false] <;> rfl) (by simp only [x_threadOf, h1, h2, h3, cond_true, cond_false] <;> rfl)
      · refine zeP rfl rfl ?_
        refine zeKn (c := 10) rfl rfl rfl ?_
        refine zeB2 rfl rfl (fun h4 => ?_) (fun h4 => ?_)
        · refine zeK (v := -1) rfl rfl rfl ?_
          exact zeRe rfl rfl rfl rfl (by simp only [x_threadOf, h1, h2, h3, h4, cond_true, cond_false] <;> rfl) (by simp only [x_threadOf, h1, h2, h3, h4, cond_true, cond_false] <;> rfl)
        · have ck : k = Int32.ofNat k.toNatClampNeg ∧ k.toNatClampNeg < 10 := (ige_of (by omega) (by assumption) (by assumption))
          refine zeP rfl rfl ?_
          refine zeGR rfl rfl zS131 rfl rfl ?_
          refine zeKn (c := k.toNatClampNeg) rfl rfl ck.1 ?_
          refine zeAL (k := (k.toNatClampNeg)) rfl rfl zS136 rfl ck.2 ?_
          refine zeP rfl rfl ?_
          exact zeRe rfl rfl rfl rfl (by simp only [x_threadOf, h1, h2, h3, h4, cond_true, cond_false] <;> rfl) (by simp only [x_threadOf, h1, h2, h3, h4, cond_true, cond_false] <;> rfl)
theorem xc_threadOf {σ : Nat → Nat × (Nat → Int32)} {yy : (Nat → Nat → Int64) × Bool × Nat × Nat} {m : Nat → Nat → Int32} {k : Int32} : zF σ 1 802 [.ref 131, .int k] (zS1, m, yy) (.inl (some (.int (x_threadOf m k)))) (zS1, m, yy) := by
  intro d hd
  obtain ⟨d, rfl⟩ : ∃ k, d = k + 1 := ⟨d - 1, by omega⟩
  exact xp_threadOf hd 
def e_serial (m : Nat → Nat → Int32) (k : Int32) (n5 : Nat) : Int32 × (Nat → Nat → Int32) := (bif zc1 .ne (m 131 8) then ((x_threadOf m k), m) else ((x_threadOf ((x_search m n5)) k), (x_search m n5)))
theorem ec_serial {σ : Nat → Nat × (Nat → Int32)} {yy : (Nat → Nat → Int64) × Bool × Nat × Nat} {m : Nat → Nat → Int32} {k : Int32} {n5 : Nat} (hn5 : n5 ≤ 4) (hj : OJ m n5) : zF σ 17 1630 [.ref 0, .int k] (zS1, m, yy) (.inl (some (.int (e_serial m k n5).1))) (zS1, (e_serial m k n5).2, yy) := by
  intro d hd
  obtain ⟨d, rfl⟩ : ∃ k, d = k + 1 := ⟨d - 1, by omega⟩
  show zEv σ (d + 1) 1630 0 [some (.ref 0), some (.int k)] [] _ _ _
  refine zeP rfl rfl ?_
  refine zeGR rfl rfl zS00 rfl rfl ?_
  refine zeGI rfl rfl zS131 rfl rfl ?_
  refine zeB1 rfl rfl (fun h1 => ?_) (fun h1 => ?_)
  · refine zeP rfl rfl ?_
    refine zeGR rfl rfl zS00 rfl rfl ?_
    refine zeP rfl rfl ?_
    refine zeCV rfl rfl rfl rfl zS131 rfl (xc_threadOf (m := m) (k := k) ) (by omega) ?_
    dsimp only [Option.toList, List.cons_append, List.nil_append]
    exact zeRe rfl rfl rfl rfl (by simp only [e_serial, h1, cond_true, cond_false] <;> rfl) (by simp only [e_serial, h1, cond_true, cond_false] <;> rfl)
  · refine zeP rfl rfl ?_
    refine zeGR rfl rfl zS00 rfl rfl ?_
    refine zeCV rfl rfl rfl rfl zS131 rfl (xc_search (m := m) (n5 := n5) hn5 hj) (by omega) ?_
    dsimp only [Option.toList, List.cons_append, List.nil_append]
    refine zeP rfl rfl ?_
    refine zeGR rfl rfl zS00 rfl rfl ?_
    refine zeP rfl rfl ?_
    refine zeCV rfl rfl rfl rfl zS131 rfl (xc_threadOf (m := (x_search m n5)) (k := k) ) (by omega) ?_
    dsimp only [Option.toList, List.cons_append, List.nil_append]
    exact zeRe rfl rfl rfl rfl (by simp only [e_serial, h1, cond_true, cond_false] <;> rfl) (by simp only [e_serial, h1, cond_true, cond_false] <;> rfl)
