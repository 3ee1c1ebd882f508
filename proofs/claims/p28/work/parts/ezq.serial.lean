/-! serial, alike -/
section ZSF
variable {m M P Q : Nat → Nat → Int32} {W : Nat → Int32} {v : Int32}
theorem searchL_v : ∀ (n t a : Nat) (m : Nat → Nat → Int32), t + n = nv W 9 → LW m W → OJ m (nv W 9) → m 131 7 = Int32.ofNat a → (∀ u, u < t → m 134 u = Int32.ofNat 0 ∧ m 135 u = Int32.ofNat 0) → ∃ m', xl_searchL (nv W 9) n t m = xl_searchL (nv W 9) 0 0 m' ∧ OJ m' (nv W 9) ∧ m' 131 7 = Int32.ofNat (l_allParts W n a t).1 ∧ (∀ u, u < nv W 9 → m' 134 u = Int32.ofNat 0 ∧ m' 135 u = Int32.ofNat 0) ∧ ∀ i l, i < 131 ∨ (i = 131 ∧ l ≠ 7) → m' i l = m i l := by
  intro n
  induction n with
  | zero => intro t a m hk h hj h7 hz; exact ⟨m, rfl, hj, h7, fun u hu => hz u (by omega), fun _ _ _ => rfl⟩
  | succ n ih =>
    intro t a m hk h hj h7 hz
    have hW := h.1.2.W
    have hN := hW.N4
    have pc := (pcount_w h (show t < nv W 9 by omega) (by omega)).trans (pt_n hW (show t < 4 by omega)).1
    obtain ⟨m', e1, e2, e3, e4, e5⟩ := ih (t + 1) (a + ptn W t) (zm2 (zm2 (zm2 m 131 7 (m 131 7 + x_partCount m 1 t)) 134 t (Int32.ofNat 0)) 135 t (Int32.ofNat 0)) (by omega) (h.far (fun i l h1 h2 => by rw [zx_ne _ _ _ (by omega), zx_ne _ _ _ (by omega), zx_ne _ _ _ (by omega)])) (hj.p0 (by omega)) (by rw [zx_ne _ _ _ (by omega), zx_ne _ _ _ (by omega), zx_at, h7, pc, i_add]) (fun u hu => by
      by_cases e : u = t
      · subst e
        exact ⟨(zx_ne _ _ _ (by omega)).trans (zx_at _ _ _ _), zx_at _ _ _ _⟩
      · exact ⟨((zx_ne _ _ _ (by omega)).trans (zx_nk _ _ e)).trans ((zx_ne _ _ _ (by omega)).trans (hz u (by omega)).1), (zx_nk _ _ e).trans ((zx_ne _ _ _ (by omega)).trans ((zx_ne _ _ _ (by omega)).trans (hz u (by omega)).2))⟩)
    exact ⟨m', e1, e2, e3, e4, fun i l hi => (e5 i l hi).trans (by rw [zx_ne _ _ _ (by omega), zx_ne _ _ _ (by omega), zx_o _ _ (by omega)])⟩
theorem serial_1 (hd : zc1 .eq (q_areAllDone W) = true) : (q_serial Q W v).1 = -1 := by
  unfold q_serial
  rw [hd, cnT]
theorem serial_2 (hg : zc2 .gt (Int32.ofNat (l_allParts W (nv W 9) 0 0).1) (Int32.ofNat 10) = true) : (q_serial Q W v).1 = -1 := by
  unfold q_serial
  rw [hg, cnT]
  exact cndi (fun X : Int32 × (Nat → Nat → Int32) => X.1 = -1) rfl rfl
theorem serial_3 (hd : zc1 .eq (q_areAllDone W) = false) (hg : zc2 .gt (Int32.ofNat (l_allParts W (nv W 9) 0 0).1) (Int32.ofNat 10) = false) (hA : (l_allParts W (nv W 9) 0 0).1 ≤ 10) : (q_serial Q W v).1 = bif rg v 0 ((l_allParts W (nv W 9) 0 0).1 : Int) then (bif zc1 .eq (q_orders W (l_allParts W (nv W 9) 0 0).1 (l_allParts W (nv W 9) 0 0).1 0 (l_firstL W 81 0 (zm2 Q 137 0 (Int32.ofNat 0))).2).1 then -1 else (q_orders W (l_allParts W (nv W 9) 0 0).1 (l_allParts W (nv W 9) 0 0).1 0 (l_firstL W 81 0 (zm2 Q 137 0 (Int32.ofNat 0))).2).2 144 v.toNatClampNeg) else -1 := by
  have e : zc1 .ne (q_in v (Int32.ofNat 0) (Int32.ofNat (l_allParts W (nv W 9) 0 0).1 - Int32.ofNat 1)) = rg v 0 ((l_allParts W (nv W 9) 0 0).1 : Int) := by
    rw [in_rg, sub1 (by omega), zoN (by omega)]
    rfl
  unfold q_serial
  rw [hd, cnF, hg, cnF, e]
  generalize q_orders W (l_allParts W (nv W 9) 0 0).1 (l_allParts W (nv W 9) 0 0).1 0 (l_firstL W 81 0 (zm2 Q 137 0 (Int32.ofNat 0))).2 = Y
  cases rg v 0 ((l_allParts W (nv W 9) 0 0).1 : Int) with
  | false => rfl
  | true =>
    rw [cnT, cnT]
    cases zc1 .eq Y.1 <;> rfl
theorem ser_eq (h : LW m W) (hj : OJ m (nv W 9)) (v : Int32) (Q : Nat → Nat → Int32) : x_threadOf (x_search m (nv W 9)) v = (q_serial Q W v).1 := by
  have hW := h.1.2.W
  have hN := hW.N4
  have f0 : ∀ i l, i < 131 → zm2 (zm2 (zm2 m 131 8 (Int32.ofNat 1)) 131 9 (Int32.ofNat 0)) 131 7 (Int32.ofNat 0) i l = m i l := fun i l hi => by rw [zx_ne _ _ _ (by omega), zx_ne _ _ _ (by omega), zx_ne _ _ _ (by omega)]
  obtain ⟨P, e1, e2, e3, e4, e5⟩ := searchL_v (W := W) (nv W 9) 0 0 (zm2 (zm2 (zm2 m 131 8 (Int32.ofNat 1)) 131 9 (Int32.ofNat 0)) 131 7 (Int32.ofNat 0)) (by omega) (h.far (fun i l h1 h2 => f0 i l (by omega))) (((hj.far (by omega) (by omega)).far (by omega) (by omega)).far (by omega) (by omega)) (zx_at _ _ _ _) (fun u hu => absurd hu (Nat.not_lt_zero _))
  have hP : LW P W := h.far (fun i l h1 h2 => (e5 i l (by omega)).trans (f0 i l (by omega)))
  have hle := allParts_le hW (nv W 9) 0 0 (by omega) (by omega)
  have n9 : P 131 9 = Int32.ofNat 0 := (e5 131 9 (by omega)).trans (by rw [zx_nk _ _ (by omega), zx_at])
  have no : x_threadOf P v = -1 := by
    unfold x_threadOf
    rw [n9, zeq0, cnT]
  have es : x_search m (nv W 9) = xl_searchL (nv W 9) 0 0 P := e1
  have ed : zc1 .ne (x_mDoneX P 1) = !(zc1 .eq (q_areAllDone W)) := by
    unfold x_mDoneX
    rw [next_eq hP.1.1 hW, zne2_n, all_next hW hP.1.2.2.1, zne_n (q_areAllDone W)]
    cases zc1 .eq (q_areAllDone W) with
    | true => exact zne0
    | false => exact zn1
  rw [es, xl_searchL, e3, ed]
  cases hg : zc2 .gt (Int32.ofNat (l_allParts W (nv W 9) 0 0).1) (Int32.ofNat 10) with
  | true =>
    rw [cnT, no]
    exact (serial_2 hg).symm
  | false =>
    rw [cnF]
    cases hd : zc1 .eq (q_areAllDone W) with
    | true =>
      rw [Bool.not_true, cnF, no]
      exact (serial_1 hd).symm
    | false =>
      rw [Bool.not_false, cnT]
      have hA : (l_allParts W (nv W 9) 0 0).1 ≤ 10 := zgt_le (by omega) (by omega) hg
      rw [serial_3 hd hg hA]
      have hj1 : OJ (zcpy (zm2 P 131 6 (Int32.ofNat 0)) (1 + 2) 132 0 0 32) (nv W 9) := e2.told
      have pk : ∀ i l, i ≠ 132 → (i ≠ 131 ∨ l ≠ 6) → zcpy (zm2 P 131 6 (Int32.ofNat 0)) (1 + 2) 132 0 0 32 i l = P i l := fun i l h1 h2 => (zcpy_ne h1).trans (zx_o _ _ (by omega))
      obtain ⟨-, -, fv⟩ := firstL_v (W := W) 81 0 (zm2 Q 137 0 (Int32.ofNat 0)) rfl
      have fz : ∀ c, 32 ≤ c → c < 81 → (l_firstL W 81 0 (zm2 Q 137 0 (Int32.ofNat 0))).2 143 c = Int32.ofNat 0 := fun c h1 h2 => (fv c (Nat.zero_le _) h2).trans (if_neg (by omega))
      have st : oST W (l_allParts W (nv W 9) 0 0).1 0 (zcpy (zm2 P 131 6 (Int32.ofNat 0)) (1 + 2) 132 0 0 32) (l_firstL W 81 0 (zm2 Q 137 0 (Int32.ofNat 0))).2 := by
        refine ⟨hP.far (fun i l h1 h2 => pk i l (by omega) (by omega)), hj1, (pk 131 7 (by omega) (by omega)).trans e3, firstL_O, firstL_L, fun w hw => ?_, fun u hu => ?_, fun u hu => ?_, ?_, ?_, fun k hk => ?_⟩
        · have z := zcpy_at (m := zm2 P 131 6 (Int32.ofNat 0)) (a0 := 1 + 2) (a1 := 132) (s := 0) (p := 0) (n := 32) (w := w) hw
          rw [Nat.zero_add] at z
          rw [z, Nat.zero_add, fv w (Nat.zero_le _) (by omega), if_pos hw, zx_ne _ _ _ (by omega)]
          exact hP.1.1.globR (by omega) (by omega) (cm_t hw)
        · rw [pk 135 u (by omega) (by omega), (e4 u hu).2, fz _ (by omega) (by omega)]
        · rw [pk 134 u (by omega) (by omega), (e4 u hu).1, fz _ (by omega) (by omega)]
        · rw [zcpy_ne (by omega), zx_at, fz _ (by omega) (by omega)]
        · rw [fz _ (by omega) (by omega), nv_on (by omega)]
          exact Nat.zero_le _
        · rw [fz _ (by omega) (by omega), nv_on (by omega)] at hk
          exact absurd hk (by omega)
      obtain ⟨w1, -, -⟩ := pf_rs hA (l_allParts W (nv W 9) 0 0).1 0 0 10 _ _ (by omega) rfl rfl st
      have ox := (pf_ok (σ := fun _ => (0, fun _ => 0)) (yy := (fun _ _ => 0, true, 0, 0)) hN 10 0 rfl _ hj1).2
      have x7 := (ox.2.2.1 7 (by omega)).trans ((pk 131 7 (by omega) (by omega)).trans e3)
      revert w1 x7
      clear ox st fz fv
      generalize x_pf (nv W 9) 10 0 (zcpy (zm2 P 131 6 (Int32.ofNat 0)) (1 + 2) 132 0 0 32) = X
      generalize q_orders W (l_allParts W (nv W 9) 0 0).1 (l_allParts W (nv W 9) 0 0).1 0 (l_firstL W 81 0 (zm2 Q 137 0 (Int32.ofNat 0))).2 = Y
      intro w1 x7
      unfold x_threadOf
      rw [zx_at, zx_nk _ _ (by omega), x7, zx_ne _ _ _ (by omega)]
      rcases w1 with ⟨u1, u2, u3⟩ | ⟨u1, u2, -⟩
      · rw [u1, u2, zeq1', cnF, cnF]
        cases hr : rg v 0 ((l_allParts W (nv W 9) 0 0).1 : Int) with
        | true =>
          obtain ⟨r1, -, r3⟩ := rg_T (v := v) (x := Int32.ofNat (l_allParts W (nv W 9) 0 0).1) (by rw [zoN (by omega)]; exact hr)
          obtain ⟨ev, hv⟩ := rg_n hr
          have r4 : zc2 .ge v (Int32.ofNat 10) = false := by
            rw [ev]
            exact zcge_f (by omega) (by omega) (by omega)
          rw [r1, cnF, r3, cnF, r4, cnF, cnT]
          exact u3 _ (Nat.zero_le _) (by omega)
        | false =>
          rw [cnF]
          rcases rg_F (v := v) (x := Int32.ofNat (l_allParts W (nv W 9) 0 0).1) (by rw [zoN (by omega)]; exact hr) with r | ⟨r1, -, r3⟩
          · rw [r, cnT]
          · rw [r1, cnF, r3, cnT]
      · rw [u1, u2, zeq0, cnT, cnT]
        cases rg v 0 ((l_allParts W (nv W 9) 0 0).1 : Int) <;> rfl
end ZSF
