theorem RC.fall {m : Nat → Nat → Int32} {b : Nat} {W : Nat → Int32} {t y a d : Nat} (h : RC m b W) (hw : WG W) (ht : t < nv W 9) (hy : y < 5) (hn : mv m (b + 40) 2 < 60) (hg : W (376 + 103 * t + 2) = Int32.ofNat 1) (hl : 1 ≤ nv W (376 + 103 * t + 10)) (ha : W (20 + nv W (376 + 103 * t + 11)) = Int32.ofNat a) (ha15 : a ≤ 15) (hd : W 6 = Int32.ofNat d) (hd15 : d ≤ 15) : RC (x_fall m b t y).2 b (q_falls W t y) := by
  have hC := hw.C
  have h4 := hw.N4
  have ht4 : t < 4 := by omega
  have hL := hw.L t ht4
  -- what is read on both sides
  have v18 : m (b + 14 + 7 * t) 1 = W (376 + 103 * t + 18) := h.cellS ht4 (by omega) ⟨ht, fun q => by omega, fun _ => hg, fun q => by omega, fun q => by omega⟩ rfl
  have v19 : m (b + 14 + 7 * t) 2 = W (376 + 103 * t + 19) := h.cellS ht4 (by omega) ⟨ht, fun q => by omega, fun _ => hg, fun q => by omega, fun q => by omega⟩ rfl
  have v3 : m (b + 10 + 7 * t) 5 = W (376 + 103 * t + 3) := h.cellS ht4 (by omega) (cnd0 ht (by omega)) rfl
  have vy : m (b + 13 + 7 * t) y = W (376 + 103 * t + (5 + y)) := h.cellS ht4 (by omega) (cnd0 ht (by omega)) (cmT_5 hy)
  have vL : m (b + 15 + 7 * t) 0 = W (376 + 103 * t + 11) := h.cellS ht4 (by omega) ⟨ht, fun _ => by omega, fun q => by omega, fun q => by omega, fun q => by omega⟩ rfl
  have eL : mv m (b + 15 + 7 * t) 0 = nv W (376 + 103 * t + 11) := by unfold mv nv; rw [vL]
  have v6 : m (b + 3) 6 = W 6 := h.glob (k := 6) (by omega) (by omega)
  have v11 : m b 7 = W 11 := h.glob (k := 11) (by omega) (by omega)
  have vT : m (b + 5 + nv W (376 + 103 * t + 11)) 1 = W (20 + nv W (376 + 103 * t + 11)) := by
    have q := h.glob (k := 20 + nv W (376 + 103 * t + 11)) (by omega) (by omega)
    have e : cm (20 + nv W (376 + 103 * t + 11)) = (5 + nv W (376 + 103 * t + 11), 1) := lt4 (P := fun l => cm (20 + l) = (5 + l, 1)) rfl rfl rfl rfl hL.2
    rw [e] at q
    dsimp only at q
    rw [← Nat.add_assoc] at q
    exact q
  -- the five cells of the thread
  have r1 := h.thS (c := 0) (o := 10) (s := 3) (x := W (376 + 103 * t + 18)) hC ht4 (by omega) (by omega) rfl
  have w1 := WC_of (V := upd W (376 + 103 * t + 0) (W (376 + 103 * t + 18))) (upd_ne _ _ (by omega)) hC
  have r2 := r1.thS (c := 1) (o := 10) (s := 4) (x := W (376 + 103 * t + 19)) w1 ht4 (by omega) (by omega) rfl
  have w2 := WC_of (V := upd (upd W (376 + 103 * t + 0) (W (376 + 103 * t + 18))) (376 + 103 * t + 1) (W (376 + 103 * t + 19))) (upd_ne _ _ (by omega)) w1
  have r3 := r2.thS (c := 21) (o := 10) (s := 7) (x := Int32.ofNat 0) w2 ht4 (by omega) (by omega) rfl
  have w3 := WC_of (V := upd (upd (upd W (376 + 103 * t + 0) (W (376 + 103 * t + 18))) (376 + 103 * t + 1) (W (376 + 103 * t + 19))) (376 + 103 * t + 21) (Int32.ofNat 0)) (upd_ne _ _ (by omega)) w2
  have r4 := r3.thS (c := 3) (o := 10) (s := 5) (x := W (376 + 103 * t + 3) + Int32.ofNat 1) w3 ht4 (by omega) (by omega) rfl
  have w4 := WC_of (V := upd (upd (upd (upd W (376 + 103 * t + 0) (W (376 + 103 * t + 18))) (376 + 103 * t + 1) (W (376 + 103 * t + 19))) (376 + 103 * t + 21) (Int32.ofNat 0)) (376 + 103 * t + 3) (W (376 + 103 * t + 3) + Int32.ofNat 1)) (upd_ne _ _ (by omega)) w3
  have r5 := r4.thS (c := 5 + y) (o := 13) (s := y) (x := W (376 + 103 * t + (5 + y)) + Int32.ofNat 1) w4 ht4 (by omega) (by omega) (cmT_5 hy)
  have w5 := WC_of (V := upd (upd (upd (upd (upd W (376 + 103 * t + 0) (W (376 + 103 * t + 18))) (376 + 103 * t + 1) (W (376 + 103 * t + 19))) (376 + 103 * t + 21) (Int32.ofNat 0)) (376 + 103 * t + 3) (W (376 + 103 * t + 3) + Int32.ofNat 1)) (376 + 103 * t + (5 + y)) (W (376 + 103 * t + (5 + y)) + Int32.ofNat 1)) (upd_ne _ _ (by omega)) w4
  have eW : q_falls W t y = q_logs (q_ends (upd (upd (upd (upd (upd (upd W (376 + 103 * t + 0) (W (376 + 103 * t + 18))) (376 + 103 * t + 1) (W (376 + 103 * t + 19))) (376 + 103 * t + 21) (Int32.ofNat 0)) (376 + 103 * t + 3) (W (376 + 103 * t + 3) + Int32.ofNat 1)) (376 + 103 * t + (5 + y)) (W (376 + 103 * t + (5 + y)) + Int32.ofNat 1)) (20 + nv W (376 + 103 * t + 11)) (if Int32.ofNat 0 < W (20 + nv W (376 + 103 * t + 11)) - W 6 then W (20 + nv W (376 + 103 * t + 11)) - W 6 else Int32.ofNat 0)) t) (Int32.ofNat t) (Int32.ofNat 2) (Int32.ofNat y) := by
    unfold q_falls
    simp (disch := omega) only [q_of, upd_ne]
  have eM : (x_fall m b t y).2 = x_logAdd (x_close (x_lose (zm2 (zm2 (zm2 (zm2 (zm2 m (b + 10 + 7 * t) 3 (m (b + 14 + 7 * t) 1)) (b + 10 + 7 * t) 4 (m (b + 14 + 7 * t) 2)) (b + 10 + 7 * t) 7 (Int32.ofNat 0)) (b + 10 + 7 * t) 5 (m (b + 10 + 7 * t) 5 + Int32.ofNat 1)) (b + 13 + 7 * t) y (m (b + 13 + 7 * t) y + Int32.ofNat 1)) b (mv m (b + 15 + 7 * t) 0) (m (b + 3) 6)) b t) b (m b 7) (Int32.ofNat t) (Int32.ofNat 2) (Int32.ofNat y) := by
    have hlm : mv m (b + 15 + 7 * t) 0 < 4 := by rw [eL]; exact hL.2
    unfold x_fall
    dsimp only
    simp (disch := omega) only [zx_ne, zx_nk, close_ne, lose_ne]
  rw [eM, eW, eL, v18, v19, v3, vy, v6, v11]
  -- trust
  have hj : 20 + nv W (376 + 103 * t + 11) < 24 := by have := hL.2; omega
  have e20 : cm (20 + nv W (376 + 103 * t + 11)) = (5 + nv W (376 + 103 * t + 11), 1) := lt4 (P := fun l => cm (20 + l) = (5 + l, 1)) rfl rfl rfl rfl hL.2
  have r6 := r5.put (j := 20 + nv W (376 + 103 * t + 11)) (x := if Int32.ofNat 0 < W (20 + nv W (376 + 103 * t + 11)) - W 6 then W (20 + nv W (376 + 103 * t + 11)) - W 6 else Int32.ofNat 0) (by omega) (by omega) (Or.inl (by omega)) w5 (fun k hk _ => cnd_of (upd_ne _ _ (by omega)) (fun u hu => ⟨upd_ne _ _ (by omega), upd_ne _ _ (by omega), upd_ne _ _ (by omega), upd_ne _ _ (by omega)⟩) hk) (by rw [e20]; exact ⟨by show 5 + nv W (376 + 103 * t + 11) ≠ 40; omega, by show 5 + nv W (376 + 103 * t + 11) ≠ 41; omega⟩)
  have w6 := WC_of (V := upd (upd (upd (upd (upd (upd W (376 + 103 * t + 0) (W (376 + 103 * t + 18))) (376 + 103 * t + 1) (W (376 + 103 * t + 19))) (376 + 103 * t + 21) (Int32.ofNat 0)) (376 + 103 * t + 3) (W (376 + 103 * t + 3) + Int32.ofNat 1)) (376 + 103 * t + (5 + y)) (W (376 + 103 * t + (5 + y)) + Int32.ofNat 1)) (20 + nv W (376 + 103 * t + 11)) (if Int32.ofNat 0 < W (20 + nv W (376 + 103 * t + 11)) - W 6 then W (20 + nv W (376 + 103 * t + 11)) - W 6 else Int32.ofNat 0)) (upd_ne _ _ (by omega)) w5
  rw [e20] at r6
  dsimp only at r6
  rw [show b + (5 + nv W (376 + 103 * t + 11)) = b + 5 + nv W (376 + 103 * t + 11) from (Nat.add_assoc _ _ _).symm] at r6
  have el : ∀ M : Nat → Nat → Int32, M (b + 5 + nv W (376 + 103 * t + 11)) 1 = W (20 + nv W (376 + 103 * t + 11)) → x_lose M b (nv W (376 + 103 * t + 11)) (W 6) = zm2 M (b + 5 + nv W (376 + 103 * t + 11)) 1 (if Int32.ofNat 0 < W (20 + nv W (376 + 103 * t + 11)) - W 6 then W (20 + nv W (376 + 103 * t + 11)) - W 6 else Int32.ofNat 0) := by
    intro M hM
    unfold x_lose
    rw [hM, ha, hd, ← lose_eq ha15 hd15]
    cases zc2 .le (Int32.ofNat a) (Int32.ofNat d) <;> rfl
  rw [el _ (by rw [zx_ne _ _ _ (by omega), zx_ne _ _ _ (by omega), zx_ne _ _ _ (by omega), zx_ne _ _ _ (by omega), zx_ne _ _ _ (by omega)]; exact vT)]
  have r7 := r6.ends w6 ht4
  have ew : ∀ V : Nat → Int32, WC V → WC (q_ends V t) := fun V hV => WC_of (by simp (disch := omega) only [q_ends, upd_ne]) hV
  have w7 := ew _ w6
  have r8 := r7.log (t := Int32.ofNat t) (w := Int32.ofNat 2) (v := Int32.ofNat y) w7 (zxb (by simp (disch := omega) only [close_ne, zx_ne]) hn)
  have e11 : ∀ V : Nat → Int32, q_ends V t 11 = V 11 := fun V => by simp (disch := omega) only [q_ends, upd_ne]
  rw [e11] at r8
  rw [upd_ne _ _ (by omega), upd_ne _ _ (by omega), upd_ne _ _ (by omega), upd_ne _ _ (by omega), upd_ne _ _ (by omega), upd_ne _ _ (by omega)] at r8
  exact r8
