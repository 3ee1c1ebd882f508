noncomputable def zpk (c : Nat) : List Cond := match c with
  | 0 => k2_sels lw_privs
  | 1 => tables_1_1
  | 2 => tables_1_2
  | 3 => tables_1_3
  | 4 => tables_1_4
  | 5 => tables_1_5
  | 6 => tables_1_6
  | 7 => tables_1_7
  | 8 => tables_1_8
  | _ => []
theorem zpk_in {c : Nat} {w : Cond} (h : w ∈ zpk c) : w ∈ lw_tbl := by
  unfold lw_tbl tables_1
  match c, h with
  | 0, h => exact List.mem_append_left _ h
  | 1, h => exact List.mem_append_right _ (List.mem_append_left _ h)
  | 2, h => exact List.mem_append_right _ (List.mem_append_right _ (List.mem_append_left _ h))
  | 3, h => exact List.mem_append_right _ (List.mem_append_right _ (List.mem_append_right _ (List.mem_append_left _ h)))
  | 4, h => exact List.mem_append_right _ (List.mem_append_right _ (List.mem_append_right _ (List.mem_append_right _ (List.mem_append_left _ h))))
  | 5, h => exact List.mem_append_right _ (List.mem_append_right _ (List.mem_append_right _ (List.mem_append_right _ (List.mem_append_right _ (List.mem_append_left _ h)))))
  | 6, h => exact List.mem_append_right _ (List.mem_append_right _ (List.mem_append_right _ (List.mem_append_right _ (List.mem_append_right _ (List.mem_append_right _ (List.mem_append_left _ h))))))
  | 7, h => exact List.mem_append_right _ (List.mem_append_right _ (List.mem_append_right _ (List.mem_append_right _ (List.mem_append_right _ (List.mem_append_right _ (List.mem_append_right _ (List.mem_append_left _ h)))))))
  | 8, h => exact List.mem_append_right _ (List.mem_append_right _ (List.mem_append_right _ (List.mem_append_right _ (List.mem_append_right _ (List.mem_append_right _ (List.mem_append_right _ (List.mem_append_right _ (h))))))))
  | k + 9, h => exact absurd h List.not_mem_nil
theorem zsb (ps : List (Nat × Nat)) {L : List Cond} (h : ∀ w ∈ L, w ∈ ps.filterMap (fun e => (zpk e.1)[e.2]?)) : ∀ w ∈ L, w ∈ lw_tbl := fun w hw => by
  obtain ⟨e, -, q⟩ := List.mem_filterMap.mp (h w hw)
  exact zpk_in (List.mem_of_getElem? q)
noncomputable def zxp_0 : List (Nat × Nat) := [(1, 17), (1, 18), (1, 19), (1, 22), (1, 31), (1, 32), (1, 33), (1, 39), (1, 46), (1, 78), (1, 84), (1, 184), (2, 25), (2, 48), (2, 61), (4, 76), (4, 77), (4, 78), (4, 79), (4, 80), (4, 81), (4, 82), (4, 83), (4, 84), (4, 85), (4, 86), (4, 87), (4, 88), (4, 89), (4, 90), (4, 91), (4, 92), (4, 93), (4, 94), (4, 95), (4, 96), (4, 97), (4, 98), (4, 99), (4, 100), (4, 101), (4, 102), (4, 103), (4, 104), (4, 105), (4, 106), (4, 107), (4, 108), (4, 109), (4, 110), (4, 111), (4, 112), (4, 113), (4, 114), (4, 115), (4, 120), (4, 121), (4, 122), (4, 123), (4, 124), (4, 125), (4, 126), (4, 127), (4, 128), (4, 129), (4, 130), (4, 131), (4, 132), (4, 133), (4, 134), (4, 135), (4, 136), (4, 137), (4, 138), (4, 139), (4, 140), (4, 141), (4, 145), (4, 146), (4, 147), (4, 148), (4, 149), (4, 150), (4, 155), (4, 156), (4, 157), (4, 161), (4, 171), (4, 172), (4, 173), (4, 174), (4, 175), (4, 176), (4, 177), (4, 178), (4, 179), (4, 181), (4, 182), (4, 183), (4, 184), (4, 185), (4, 186), (4, 196), (4, 197), (4, 198), (4, 199), (4, 200), (4, 201), (4, 206), (4, 207), (4, 208), (5, 56), (5, 57), (5, 58), (5, 59), (5, 60), (5, 61), (5, 66), (5, 67), (5, 68), (5, 230), (8, 35), (8, 48), (8, 51)]
theorem zthw_0 : ∀ w ∈ (vx_atS RX8 174 "java/lang/IndexOutOfBoundsException" ["java/lang/RuntimeException", "java/lang/Exception"]).filter goodWord, w ∈ lw_tbl := zsb zxp_0 (by decide +kernel)
theorem zthn_0 : ∀ w ∈ (vx_atS RX8 174 "java/lang/IndexOutOfBoundsException" ["java/lang/RuntimeException", "java/lang/Exception"]).filter (fun w => !goodWord w), w ∈ zNs ++ zDs := by decide +kernel
theorem zthg_0 : (Cond.classLink RX8 170 (zex 0) :: Cond.initialized (zex 0) :: vx_atS RX8 174 (zex 0) znm).all vx_ot = true := by decide +kernel
theorem zthk_0 : Cond.classLink RX8 170 (zex 0) ∈ lw_tbl ∧ Cond.initialized (zex 0) ∈ lw_tbl ∧ Bundle.fit (zex 0) = true := by decide +kernel
noncomputable def zxp_2 : List (Nat × Nat) := [(1, 17), (1, 18), (1, 19), (1, 20), (1, 31), (1, 32), (1, 33), (1, 39), (1, 46), (1, 78), (1, 84), (1, 184), (2, 25), (2, 48), (2, 61), (3, 182), (4, 73), (4, 74), (4, 75), (4, 76), (4, 77), (4, 78), (4, 79), (4, 80), (4, 81), (4, 82), (4, 83), (4, 84), (4, 85), (4, 86), (4, 87), (4, 88), (4, 89), (4, 90), (4, 91), (4, 92), (4, 93), (4, 94), (4, 95), (4, 96), (4, 97), (4, 98), (4, 99), (4, 100), (4, 101), (4, 102), (4, 103), (4, 104), (4, 105), (4, 106), (4, 107), (4, 108), (4, 109), (4, 110), (4, 111), (4, 112), (4, 113), (4, 114), (4, 115), (4, 117), (4, 118), (4, 119), (4, 120), (4, 121), (4, 122), (4, 123), (4, 124), (4, 125), (4, 126), (4, 127), (4, 128), (4, 129), (4, 130), (4, 131), (4, 132), (4, 133), (4, 134), (4, 135), (4, 136), (4, 137), (4, 138), (4, 139), (4, 140), (4, 141), (4, 145), (4, 146), (4, 147), (4, 148), (4, 149), (4, 150), (4, 155), (4, 156), (4, 157), (4, 174), (4, 175), (4, 176), (4, 177), (4, 178), (4, 179), (4, 184), (4, 185), (4, 186), (4, 196), (4, 197), (4, 198), (4, 199), (4, 200), (4, 201), (4, 206), (4, 207), (4, 208), (5, 56), (5, 57), (5, 58), (5, 59), (5, 60), (5, 61), (5, 66), (5, 67), (5, 68), (5, 230), (8, 35), (8, 46), (8, 51)]
theorem zthw_2 : ∀ w ∈ (vx_atS RX8 73 "java/lang/IllegalArgumentException" ["java/lang/RuntimeException", "java/lang/Exception"]).filter goodWord, w ∈ lw_tbl := zsb zxp_2 (by decide +kernel)
theorem zthn_2 : ∀ w ∈ (vx_atS RX8 73 "java/lang/IllegalArgumentException" ["java/lang/RuntimeException", "java/lang/Exception"]).filter (fun w => !goodWord w), w ∈ zNs ++ zDs := by decide +kernel
theorem zthg_2 : (Cond.classLink RX8 69 (zex 2) :: Cond.initialized (zex 2) :: vx_atS RX8 73 (zex 2) znm).all vx_ot = true := by decide +kernel
theorem zthk_2 : Cond.classLink RX8 69 (zex 2) ∈ lw_tbl ∧ Cond.initialized (zex 2) ∈ lw_tbl ∧ Bundle.fit (zex 2) = true := by decide +kernel
noncomputable def zxp_3 : List (Nat × Nat) := [(1, 17), (1, 18), (1, 19), (1, 21), (1, 31), (1, 32), (1, 33), (1, 39), (1, 46), (1, 78), (1, 84), (1, 184), (2, 25), (2, 48), (2, 61), (3, 183), (4, 76), (4, 77), (4, 78), (4, 79), (4, 80), (4, 81), (4, 82), (4, 83), (4, 84), (4, 85), (4, 86), (4, 87), (4, 88), (4, 89), (4, 90), (4, 91), (4, 92), (4, 93), (4, 94), (4, 95), (4, 96), (4, 97), (4, 98), (4, 99), (4, 100), (4, 101), (4, 102), (4, 103), (4, 104), (4, 105), (4, 106), (4, 107), (4, 108), (4, 109), (4, 110), (4, 111), (4, 112), (4, 113), (4, 114), (4, 115), (4, 120), (4, 121), (4, 122), (4, 123), (4, 124), (4, 125), (4, 126), (4, 127), (4, 128), (4, 129), (4, 130), (4, 131), (4, 132), (4, 133), (4, 134), (4, 135), (4, 136), (4, 137), (4, 138), (4, 139), (4, 140), (4, 141), (4, 142), (4, 143), (4, 144), (4, 145), (4, 146), (4, 147), (4, 148), (4, 149), (4, 150), (4, 152), (4, 153), (4, 154), (4, 155), (4, 156), (4, 157), (4, 174), (4, 175), (4, 176), (4, 177), (4, 178), (4, 179), (4, 184), (4, 185), (4, 186), (4, 196), (4, 197), (4, 198), (4, 199), (4, 200), (4, 201), (4, 206), (4, 207), (4, 208), (5, 56), (5, 57), (5, 58), (5, 59), (5, 60), (5, 61), (5, 66), (5, 67), (5, 68), (5, 230), (8, 35), (8, 47), (8, 51)]
theorem zthw_3 : ∀ w ∈ (vx_atS RX8 83 "java/lang/UnsupportedOperationException" ["java/lang/RuntimeException", "java/lang/Exception"]).filter goodWord, w ∈ lw_tbl := zsb zxp_3 (by decide +kernel)
theorem zthn_3 : ∀ w ∈ (vx_atS RX8 83 "java/lang/UnsupportedOperationException" ["java/lang/RuntimeException", "java/lang/Exception"]).filter (fun w => !goodWord w), w ∈ zNs ++ zDs := by decide +kernel
theorem zthg_3 : (Cond.classLink RX8 79 (zex 3) :: Cond.initialized (zex 3) :: vx_atS RX8 83 (zex 3) znm).all vx_ot = true := by decide +kernel
theorem zthk_3 : Cond.classLink RX8 79 (zex 3) ∈ lw_tbl ∧ Cond.initialized (zex 3) ∈ lw_tbl ∧ Bundle.fit (zex 3) = true := by decide +kernel
noncomputable def zxp_4 : List (Nat × Nat) := [(1, 17), (1, 18), (1, 19), (1, 24), (1, 31), (1, 32), (1, 33), (1, 39), (1, 46), (1, 78), (1, 84), (1, 184), (2, 25), (2, 48), (2, 61), (4, 76), (4, 77), (4, 78), (4, 79), (4, 80), (4, 81), (4, 82), (4, 83), (4, 84), (4, 85), (4, 86), (4, 87), (4, 88), (4, 89), (4, 90), (4, 91), (4, 92), (4, 93), (4, 94), (4, 95), (4, 96), (4, 97), (4, 98), (4, 99), (4, 100), (4, 101), (4, 102), (4, 103), (4, 104), (4, 105), (4, 106), (4, 107), (4, 108), (4, 109), (4, 110), (4, 111), (4, 112), (4, 113), (4, 114), (4, 115), (4, 120), (4, 121), (4, 122), (4, 123), (4, 124), (4, 125), (4, 126), (4, 127), (4, 128), (4, 129), (4, 130), (4, 131), (4, 132), (4, 133), (4, 134), (4, 135), (4, 136), (4, 137), (4, 138), (4, 139), (4, 140), (4, 141), (4, 145), (4, 146), (4, 147), (4, 148), (4, 149), (4, 150), (4, 155), (4, 156), (4, 157), (4, 174), (4, 175), (4, 176), (4, 177), (4, 178), (4, 179), (4, 184), (4, 185), (4, 186), (4, 196), (4, 197), (4, 198), (4, 199), (4, 200), (4, 201), (4, 206), (4, 207), (4, 208), (5, 48), (5, 53), (5, 54), (5, 55), (5, 56), (5, 57), (5, 58), (5, 59), (5, 60), (5, 61), (5, 63), (5, 64), (5, 65), (5, 66), (5, 67), (5, 68), (5, 230), (8, 35), (8, 50), (8, 51)]
theorem zthw_4 : ∀ w ∈ (vx_atS RX8 215 "java/lang/IllegalStateException" ["java/lang/RuntimeException", "java/lang/Exception"]).filter goodWord, w ∈ lw_tbl := zsb zxp_4 (by decide +kernel)
theorem zthn_4 : ∀ w ∈ (vx_atS RX8 215 "java/lang/IllegalStateException" ["java/lang/RuntimeException", "java/lang/Exception"]).filter (fun w => !goodWord w), w ∈ zNs ++ zDs := by decide +kernel
theorem zthg_4 : (Cond.classLink RX8 211 (zex 4) :: Cond.initialized (zex 4) :: vx_atS RX8 215 (zex 4) znm).all vx_ot = true := by decide +kernel
theorem zthk_4 : Cond.classLink RX8 211 (zex 4) ∈ lw_tbl ∧ Cond.initialized (zex 4) ∈ lw_tbl ∧ Bundle.fit (zex 4) = true := by decide +kernel
noncomputable def zthE (e ik ic : Nat) : Bool := match e with
  | 0 => ik == 170 && ic == 174
  | 2 => ik == 69 && ic == 73
  | 3 => ik == 79 && ic == 83
  | 4 => ik == 211 && ic == 215
  | _ => false
theorem zth_words {e ik ic : Nat} (h : zthE e ik ic = true) : (∀ w ∈ vx_atS RX8 ic (zex e) znm, w ∈ zWs ∨ w ∈ zNs ++ zDs) ∧ (∀ w ∈ Cond.classLink RX8 ik (zex e) :: Cond.initialized (zex e) :: vx_atS RX8 ic (zex e) znm, vx_ot w = true) ∧ Cond.classLink RX8 ik (zex e) ∈ zWs ∧ Cond.initialized (zex e) ∈ zWs ∧ Bundle.fit (zex e) = true := by
  have key : ∀ {L : List Cond}, (∀ w ∈ L.filter goodWord, w ∈ lw_tbl) → (∀ w ∈ L.filter (fun w => !goodWord w), w ∈ zNs ++ zDs) → ∀ w ∈ L, w ∈ zWs ∨ w ∈ zNs ++ zDs := by
    intro L h1 h2 w hw
    cases hg : goodWord w with
    | true => exact Or.inl (List.mem_filter.mpr ⟨h1 w (List.mem_filter.mpr ⟨hw, hg⟩), hg⟩)
    | false => exact Or.inr (h2 w (List.mem_filter.mpr ⟨hw, by rw [hg]; rfl⟩))
  match e, h with
  | 0, h => simp only [zthE, Bool.and_eq_true, beq_iff_eq] at h; obtain ⟨rfl, rfl⟩ := h; exact ⟨key zthw_0 zthn_0, fun w hw => List.all_eq_true.mp zthg_0 w hw, List.mem_filter.mpr ⟨zthk_0.1, rfl⟩, List.mem_filter.mpr ⟨zthk_0.2.1, rfl⟩, zthk_0.2.2⟩
  | 2, h => simp only [zthE, Bool.and_eq_true, beq_iff_eq] at h; obtain ⟨rfl, rfl⟩ := h; exact ⟨key zthw_2 zthn_2, fun w hw => List.all_eq_true.mp zthg_2 w hw, List.mem_filter.mpr ⟨zthk_2.1, rfl⟩, List.mem_filter.mpr ⟨zthk_2.2.1, rfl⟩, zthk_2.2.2⟩
  | 3, h => simp only [zthE, Bool.and_eq_true, beq_iff_eq] at h; obtain ⟨rfl, rfl⟩ := h; exact ⟨key zthw_3 zthn_3, fun w hw => List.all_eq_true.mp zthg_3 w hw, List.mem_filter.mpr ⟨zthk_3.1, rfl⟩, List.mem_filter.mpr ⟨zthk_3.2.1, rfl⟩, zthk_3.2.2⟩
  | 4, h => simp only [zthE, Bool.and_eq_true, beq_iff_eq] at h; obtain ⟨rfl, rfl⟩ := h; exact ⟨key zthw_4 zthn_4, fun w hw => List.all_eq_true.mp zthg_4 w hw, List.mem_filter.mpr ⟨zthk_4.1, rfl⟩, List.mem_filter.mpr ⟨zthk_4.2.1, rfl⟩, zthk_4.2.2⟩
  | 1, h => cases h
  | k + 5, h => cases h
noncomputable def zthc (t : Nat × Nat × Nat × Nat × Nat × Nat × Nat × Nat) : Bool := (t.1 / 200 == 8) && (zthE t.2.2.1 t.2.2.2.1 t.2.2.2.2.2.1 || (t.2.2.1 == 1 && t.2.2.2.1 == 131 && t.2.2.2.2.2.1 == 135)) && decide (zfe t.1 t.2.1 = some (.new t.2.2.2.1, 3)) && decide (zfe t.1 (t.2.1 + 3) = some (.dup, 1)) && (match zstr[t.2.2.2.2.2.2.2]? with
  | some q => q.1 == 8 && q.2.1 == t.2.2.2.2.1
  | none => false) && (match t.2.2.2.2.2.2.1 with
  | 0 => decide (zfe t.1 (t.2.1 + 4) = some (.ldc t.2.2.2.2.1, 2)) && decide (zfe t.1 (t.2.1 + 6) = some (.invokespecial t.2.2.2.2.2.1, 3)) && decide (zfe t.1 (t.2.1 + 9) = some (.athrow, 1))
  | _ => decide (zfe t.1 (t.2.1 + 4) = some (.ldc_w t.2.2.2.2.1, 3)) && decide (zfe t.1 (t.2.1 + 7) = some (.invokespecial t.2.2.2.2.2.1, 3)) && decide (zfe t.1 (t.2.1 + 10) = some (.athrow, 1)))
theorem zthc_0 {j pc e ik s ic n : Nat} (h1 : (j / 200 == 8) = true) (h2 : (zthE e ik ic || (e == 1 && ik == 131 && ic == 135)) = true) (h3 : zfe j pc = some (.new ik, 3)) (h4 : zfe j (pc + 3) = some (.dup, 1)) (h5 : (match zstr[n]? with
  | some q => q.1 == 8 && q.2.1 == s
  | none => false) = true) (h6 : zfe j (pc + 4) = some (.ldc s, 2)) (h7 : zfe j (pc + 6) = some (.invokespecial ic, 3)) (h8 : zfe j (pc + 9) = some (.athrow, 1)) : zthc (j, pc, e, ik, s, ic, 0, n) = true := by
  unfold zthc
  exact Bool.and_eq_true_iff.mpr ⟨Bool.and_eq_true_iff.mpr ⟨Bool.and_eq_true_iff.mpr ⟨Bool.and_eq_true_iff.mpr ⟨Bool.and_eq_true_iff.mpr ⟨h1, h2⟩, decide_eq_true h3⟩, decide_eq_true h4⟩, h5⟩, Bool.and_eq_true_iff.mpr ⟨Bool.and_eq_true_iff.mpr ⟨decide_eq_true h6, decide_eq_true h7⟩, decide_eq_true h8⟩⟩
theorem zthc_1 {j pc e ik s ic n : Nat} (h1 : (j / 200 == 8) = true) (h2 : (zthE e ik ic || (e == 1 && ik == 131 && ic == 135)) = true) (h3 : zfe j pc = some (.new ik, 3)) (h4 : zfe j (pc + 3) = some (.dup, 1)) (h5 : (match zstr[n]? with
  | some q => q.1 == 8 && q.2.1 == s
  | none => false) = true) (h6 : zfe j (pc + 4) = some (.ldc_w s, 3)) (h7 : zfe j (pc + 7) = some (.invokespecial ic, 3)) (h8 : zfe j (pc + 10) = some (.athrow, 1)) : zthc (j, pc, e, ik, s, ic, 1, n) = true := by
  unfold zthc
  exact Bool.and_eq_true_iff.mpr ⟨Bool.and_eq_true_iff.mpr ⟨Bool.and_eq_true_iff.mpr ⟨Bool.and_eq_true_iff.mpr ⟨Bool.and_eq_true_iff.mpr ⟨h1, h2⟩, decide_eq_true h3⟩, decide_eq_true h4⟩, h5⟩, Bool.and_eq_true_iff.mpr ⟨Bool.and_eq_true_iff.mpr ⟨decide_eq_true h6, decide_eq_true h7⟩, decide_eq_true h8⟩⟩
theorem zthx_0 : zthc (1604, 39, 2, 69, 71, 73, 0, 0) = true := zthc_0 rfl rfl rfl rfl rfl rfl rfl rfl
theorem zthx_1 : zthc (1604, 61, 3, 79, 81, 83, 0, 1) = true := zthc_0 rfl rfl rfl rfl rfl rfl rfl rfl
theorem zthx_2 : zthc (1606, 132, 1, 131, 133, 135, 0, 2) = true := zthc_0 rfl rfl rfl rfl rfl rfl rfl rfl
theorem zthx_3 : zthc (1609, 20, 1, 131, 149, 135, 0, 3) = true := zthc_0 rfl rfl rfl rfl rfl rfl rfl rfl
theorem zthx_4 : zthc (1612, 9, 0, 170, 172, 174, 0, 4) = true := zthc_0 rfl rfl rfl rfl rfl rfl rfl rfl
theorem zthx_5 : zthc (1612, 113, 1, 131, 194, 135, 0, 5) = true := zthc_0 rfl rfl rfl rfl rfl rfl rfl rfl
theorem zthx_6 : zthc (1613, 10, 1, 131, 196, 135, 0, 6) = true := zthc_0 rfl rfl rfl rfl rfl rfl rfl rfl
theorem zthx_7 : zthc (1615, 25, 4, 211, 213, 215, 0, 7) = true := zthc_0 rfl rfl rfl rfl rfl rfl rfl rfl
theorem zthx_8 : zthc (1619, 24, 2, 69, 232, 73, 0, 8) = true := zthc_0 rfl rfl rfl rfl rfl rfl rfl rfl
theorem zthx_9 : zthc (1620, 11, 1, 131, 238, 135, 0, 9) = true := zthc_0 rfl rfl rfl rfl rfl rfl rfl rfl
theorem zthx_10 : zthc (1620, 39, 2, 69, 246, 73, 0, 10) = true := zthc_0 rfl rfl rfl rfl rfl rfl rfl rfl
theorem zthx_11 : zthc (1627, 18, 2, 69, 260, 73, 1, 11) = true := zthc_1 rfl rfl rfl rfl rfl rfl rfl rfl
theorem zthx_12 : zthc (1632, 9, 1, 131, 286, 135, 1, 12) = true := zthc_1 rfl rfl rfl rfl rfl rfl rfl rfl
theorem zthx_13 : zthc (1638, 15, 0, 170, 326, 174, 1, 13) = true := zthc_1 rfl rfl rfl rfl rfl rfl rfl rfl
theorem zthx_14 : zthc (1639, 10, 0, 170, 328, 174, 1, 14) = true := zthc_1 rfl rfl rfl rfl rfl rfl rfl rfl
theorem zthx_15 : zthc (1640, 9, 1, 131, 330, 135, 1, 15) = true := zthc_1 rfl rfl rfl rfl rfl rfl rfl rfl
theorem zthx_16 : zthc (1641, 11, 2, 69, 246, 73, 0, 10) = true := zthc_0 rfl rfl rfl rfl rfl rfl rfl rfl
theorem zthc_ok : ∀ t ∈ zth, zthc t = true := List.forall_mem_cons.mpr ⟨zthx_0, List.forall_mem_cons.mpr ⟨zthx_1, List.forall_mem_cons.mpr ⟨zthx_2, List.forall_mem_cons.mpr ⟨zthx_3, List.forall_mem_cons.mpr ⟨zthx_4, List.forall_mem_cons.mpr ⟨zthx_5, List.forall_mem_cons.mpr ⟨zthx_6, List.forall_mem_cons.mpr ⟨zthx_7, List.forall_mem_cons.mpr ⟨zthx_8, List.forall_mem_cons.mpr ⟨zthx_9, List.forall_mem_cons.mpr ⟨zthx_10, List.forall_mem_cons.mpr ⟨zthx_11, List.forall_mem_cons.mpr ⟨zthx_12, List.forall_mem_cons.mpr ⟨zthx_13, List.forall_mem_cons.mpr ⟨zthx_14, List.forall_mem_cons.mpr ⟨zthx_15, List.forall_mem_cons.mpr ⟨zthx_16, (fun _ h => nomatch h)⟩⟩⟩⟩⟩⟩⟩⟩⟩⟩⟩⟩⟩⟩⟩⟩⟩
noncomputable abbrev zrxN : ByteArray := prog_30_method_4_code
theorem zNx0 : decode zrxN 0 = .ok (.aload_n 0, 1) := by decide +kernel
theorem zNx1 : decode zrxN 1 = .ok (.aload_n 1, 1) := by decide +kernel
theorem zNx2 : decode zrxN 2 = .ok (.invokespecial 13, 3) := by decide +kernel
theorem zNx5 : decode zrxN 5 = .ok (.return_, 1) := by decide +kernel
noncomputable abbrev zNA : List Cond := (zoA RX8 135 "java/util/NoSuchElementException" 13 zrxN ["java/lang/RuntimeException", "java/lang/Exception"]).filter vx_no
noncomputable def zxp_1 : List (Nat × Nat) := [(1, 17), (1, 18), (1, 19), (1, 23), (1, 31), (1, 32), (1, 33), (1, 39), (1, 46), (1, 78), (1, 84), (1, 184), (2, 25), (2, 48), (2, 61), (4, 76), (4, 77), (4, 78), (4, 79), (4, 80), (4, 81), (4, 82), (4, 83), (4, 84), (4, 85), (4, 86), (4, 87), (4, 88), (4, 89), (4, 90), (4, 91), (4, 92), (4, 93), (4, 94), (4, 95), (4, 96), (4, 97), (4, 98), (4, 99), (4, 100), (4, 101), (4, 102), (4, 103), (4, 104), (4, 105), (4, 106), (4, 107), (4, 108), (4, 109), (4, 110), (4, 111), (4, 112), (4, 113), (4, 114), (4, 115), (4, 120), (4, 121), (4, 122), (4, 123), (4, 124), (4, 125), (4, 126), (4, 127), (4, 128), (4, 129), (4, 130), (4, 131), (4, 132), (4, 133), (4, 134), (4, 135), (4, 136), (4, 137), (4, 138), (4, 139), (4, 140), (4, 141), (4, 145), (4, 146), (4, 147), (4, 148), (4, 149), (4, 150), (4, 155), (4, 156), (4, 157), (4, 162), (4, 174), (4, 175), (4, 176), (4, 177), (4, 178), (4, 179), (4, 184), (4, 185), (4, 186), (4, 193), (4, 194), (4, 195), (4, 196), (4, 197), (4, 198), (4, 199), (4, 200), (4, 201), (4, 203), (4, 204), (4, 205), (4, 206), (4, 207), (4, 208), (5, 56), (5, 57), (5, 58), (5, 59), (5, 60), (5, 61), (5, 66), (5, 67), (5, 68), (5, 230), (8, 35), (8, 49), (8, 51)]
theorem zNw : ∀ w ∈ zNA.filter goodWord, w ∈ lw_tbl := zsb zxp_1 (by decide +kernel)
theorem zNn : ∀ w ∈ zNA.filter (fun w => !goodWord w), w ∈ zNs ++ zDs := by decide +kernel
theorem zNg : (Cond.classLink RX8 131 "java/util/NoSuchElementException" :: Cond.initialized "java/util/NoSuchElementException" :: zNA).all vx_ot = true := by decide +kernel
theorem zNk2 : Cond.classLink RX8 131 "java/util/NoSuchElementException" ∈ lw_tbl ∧ Cond.initialized "java/util/NoSuchElementException" ∈ lw_tbl ∧ Bundle.fit "java/util/NoSuchElementException" = true := by decide +kernel
theorem zNall : ∀ w ∈ zNA, w ∈ zWs ∨ w ∈ zNs ++ zDs := by
  intro w hw
  cases hg : goodWord w with
  | true => exact Or.inl (List.mem_filter.mpr ⟨zNw w (List.mem_filter.mpr ⟨hw, hg⟩), hg⟩)
  | false => exact Or.inr (zNn w (List.mem_filter.mpr ⟨hw, by rw [hg]; rfl⟩))
theorem znm_fit : ∀ n ∈ znm, Bundle.fit n = true := by decide +kernel
