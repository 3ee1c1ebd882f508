theorem zthw_0 : ∀ w ∈ (vx_atS RX8 174 "java/lang/IndexOutOfBoundsException" ["java/lang/RuntimeException", "java/lang/Exception"]).filter goodWord, w ∈ lw_tbl := by decide +kernel
theorem zthn_0 : ∀ w ∈ (vx_atS RX8 174 "java/lang/IndexOutOfBoundsException" ["java/lang/RuntimeException", "java/lang/Exception"]).filter (fun w => !goodWord w), w ∈ zNs ++ zDs := by decide +kernel
theorem zthg_0 : (Cond.classLink RX8 170 (zex 0) :: Cond.initialized (zex 0) :: vx_atS RX8 174 (zex 0) znm).all vx_ot = true := by decide +kernel
theorem zthk_0 : Cond.classLink RX8 170 (zex 0) ∈ lw_tbl ∧ Cond.initialized (zex 0) ∈ lw_tbl ∧ Bundle.fit (zex 0) = true := by decide +kernel
theorem zthw_2 : ∀ w ∈ (vx_atS RX8 73 "java/lang/IllegalArgumentException" ["java/lang/RuntimeException", "java/lang/Exception"]).filter goodWord, w ∈ lw_tbl := by decide +kernel
theorem zthn_2 : ∀ w ∈ (vx_atS RX8 73 "java/lang/IllegalArgumentException" ["java/lang/RuntimeException", "java/lang/Exception"]).filter (fun w => !goodWord w), w ∈ zNs ++ zDs := by decide +kernel
theorem zthg_2 : (Cond.classLink RX8 69 (zex 2) :: Cond.initialized (zex 2) :: vx_atS RX8 73 (zex 2) znm).all vx_ot = true := by decide +kernel
theorem zthk_2 : Cond.classLink RX8 69 (zex 2) ∈ lw_tbl ∧ Cond.initialized (zex 2) ∈ lw_tbl ∧ Bundle.fit (zex 2) = true := by decide +kernel
theorem zthw_3 : ∀ w ∈ (vx_atS RX8 83 "java/lang/UnsupportedOperationException" ["java/lang/RuntimeException", "java/lang/Exception"]).filter goodWord, w ∈ lw_tbl := by decide +kernel
theorem zthn_3 : ∀ w ∈ (vx_atS RX8 83 "java/lang/UnsupportedOperationException" ["java/lang/RuntimeException", "java/lang/Exception"]).filter (fun w => !goodWord w), w ∈ zNs ++ zDs := by decide +kernel
theorem zthg_3 : (Cond.classLink RX8 79 (zex 3) :: Cond.initialized (zex 3) :: vx_atS RX8 83 (zex 3) znm).all vx_ot = true := by decide +kernel
theorem zthk_3 : Cond.classLink RX8 79 (zex 3) ∈ lw_tbl ∧ Cond.initialized (zex 3) ∈ lw_tbl ∧ Bundle.fit (zex 3) = true := by decide +kernel
theorem zthw_4 : ∀ w ∈ (vx_atS RX8 215 "java/lang/IllegalStateException" ["java/lang/RuntimeException", "java/lang/Exception"]).filter goodWord, w ∈ lw_tbl := by decide +kernel
theorem zthn_4 : ∀ w ∈ (vx_atS RX8 215 "java/lang/IllegalStateException" ["java/lang/RuntimeException", "java/lang/Exception"]).filter (fun w => !goodWord w), w ∈ zNs ++ zDs := by decide +kernel
theorem zthg_4 : (Cond.classLink RX8 211 (zex 4) :: Cond.initialized (zex 4) :: vx_atS RX8 215 (zex 4) znm).all vx_ot = true := by decide +kernel
theorem zthk_4 : Cond.classLink RX8 211 (zex 4) ∈ lw_tbl ∧ Cond.initialized (zex 4) ∈ lw_tbl ∧ Bundle.fit (zex 4) = true := by decide +kernel
def zthE (e ik ic : Nat) : Bool := match e with
  | 0 => ik == 170 && ic == 174
  | 2 => ik == 69 && ic == 73
  | 3 => ik == 79 && ic == 83
  | 4 => ik == 211 && ic == 215
  | _ => false
theorem zth_words {e ik ic : Nat} (h : zthE e ik ic = true) : (∀ w ∈ vx_atS RX8 ic (zex e) znm, w ∈ zWs ∨ w ∈ zNs ++ zDs) ∧ (∀ w ∈ Cond.classLink RX8 ik (zex e) :: Cond.initialized (zex e) :: vx_atS RX8 ic (zex e) znm, vx_ot w = true) ∧ Cond.classLink RX8 ik (zex e) ∈ zWs ∧ Cond.initialized (zex e) ∈ zWs ∧ Bundle.fit (zex e) = true := by
  have key : ∀ {L : List Cond}, (∀ w ∈ L.filter goodWord, w ∈ lw_tbl) → (∀ w ∈ L.filter (fun w => !goodWord w), w ∈ zNs ++ zDs) → ∀ w ∈ L, w ∈ zWs ∨ w ∈ zNs ++ zDs := by
    intro L h1 h2 w hw
    cases hg : goodWord w with
    | true => exact Or.inl (List.mem_filter.mpr ⟨h1 w (List.mem_filter.mpr ⟨hw, hg⟩), hg⟩)
    | false => exact Or.inr (h2 w (List.mem_filter.mpr ⟨hw, by rw [hg]; rfl⟩))
  match e, h with
  | 0, h => simp only [zthE, Bool.and_eq_true, beq_iff_eq] at h; obtain ⟨rfl, rfl⟩ := h; exact ⟨key zthw_0 zthn_0, fun w hw => List.all_eq_true.mp zthg_0 w hw, List.mem_filter.mpr ⟨zthk_0.1, rfl⟩, List.mem_filter.mpr ⟨zthk_0.2.1, rfl⟩, zthk_0.2.2⟩
  | 2, h => simp only [zthE, Bool.and_eq_true, beq_iff_eq] at h; obtain ⟨rfl, rfl⟩ := h; exact ⟨key zthw_2 zthn_2, fun w hw => List.all_eq_true.mp zthg_2 w hw, List.mem_filter.mpr ⟨zthk_2.1, rfl⟩, List.mem_filter.mpr ⟨zthk_2.2.1, rfl⟩, zthk_2.2.2⟩
  | 3, h => simp only [zthE, Bool.and_eq_true, beq_iff_eq] at h; obtain ⟨rfl, rfl⟩ := h; exact ⟨key zthw_3 zthn_3, fun w hw => List.all_eq_true.mp zthg_3 w hw, List.mem_filter.mpr ⟨zthk_3.1, rfl⟩, List.mem_filter.mpr ⟨zthk_3.2.1, rfl⟩, zthk_3.2.2⟩
  | 4, h => simp only [zthE, Bool.and_eq_true, beq_iff_eq] at h; obtain ⟨rfl, rfl⟩ := h; exact ⟨key zthw_4 zthn_4, fun w hw => List.all_eq_true.mp zthg_4 w hw, List.mem_filter.mpr ⟨zthk_4.1, rfl⟩, List.mem_filter.mpr ⟨zthk_4.2.1, rfl⟩, zthk_4.2.2⟩
  | 1, h => cases h
  | k + 5, h => cases h
def zthc (t : Nat × Nat × Nat × Nat × Nat × Nat × Nat × Nat) : Bool := (t.1 / 200 == 8) && (zthE t.2.2.1 t.2.2.2.1 t.2.2.2.2.2.1 || (t.2.2.1 == 1 && t.2.2.2.1 == 131 && t.2.2.2.2.2.1 == 135)) && decide (zfe t.1 t.2.1 = some (.new t.2.2.2.1, 3)) && decide (zfe t.1 (t.2.1 + 3) = some (.dup, 1)) && (match zstr[t.2.2.2.2.2.2.2]? with
  | some q => q.1 == 8 && q.2.1 == t.2.2.2.2.1
  | none => false) && (match t.2.2.2.2.2.2.1 with
  | 0 => decide (zfe t.1 (t.2.1 + 4) = some (.ldc t.2.2.2.2.1, 2)) && decide (zfe t.1 (t.2.1 + 6) = some (.invokespecial t.2.2.2.2.2.1, 3)) && decide (zfe t.1 (t.2.1 + 9) = some (.athrow, 1))
  | _ => decide (zfe t.1 (t.2.1 + 4) = some (.ldc_w t.2.2.2.2.1, 3)) && decide (zfe t.1 (t.2.1 + 7) = some (.invokespecial t.2.2.2.2.2.1, 3)) && decide (zfe t.1 (t.2.1 + 10) = some (.athrow, 1)))
theorem zthc_ok : ∀ t ∈ zth, zthc t = true := List.all_eq_true.mp (show zth.all zthc = true by decide +kernel)
abbrev zrxN : ByteArray := prog_30_method_4_code
theorem zNx0 : decode zrxN 0 = .ok (.aload_n 0, 1) := by decide +kernel
theorem zNx1 : decode zrxN 1 = .ok (.aload_n 1, 1) := by decide +kernel
theorem zNx2 : decode zrxN 2 = .ok (.invokespecial 13, 3) := by decide +kernel
theorem zNx5 : decode zrxN 5 = .ok (.return_, 1) := by decide +kernel
abbrev zNA : List Cond := (zoA RX8 135 "java/util/NoSuchElementException" 13 zrxN ["java/lang/RuntimeException", "java/lang/Exception"]).filter vx_no
theorem zNw : ∀ w ∈ zNA.filter goodWord, w ∈ lw_tbl := by decide +kernel
theorem zNn : ∀ w ∈ zNA.filter (fun w => !goodWord w), w ∈ zNs ++ zDs := by decide +kernel
theorem zNg : (Cond.classLink RX8 131 "java/util/NoSuchElementException" :: Cond.initialized "java/util/NoSuchElementException" :: zNA).all vx_ot = true := by decide +kernel
theorem zNk2 : Cond.classLink RX8 131 "java/util/NoSuchElementException" ∈ lw_tbl ∧ Cond.initialized "java/util/NoSuchElementException" ∈ lw_tbl ∧ Bundle.fit "java/util/NoSuchElementException" = true := by decide +kernel
theorem zNall : ∀ w ∈ zNA, w ∈ zWs ∨ w ∈ zNs ++ zDs := by
  intro w hw
  cases hg : goodWord w with
  | true => exact Or.inl (List.mem_filter.mpr ⟨zNw w (List.mem_filter.mpr ⟨hw, hg⟩), hg⟩)
  | false => exact Or.inr (zNn w (List.mem_filter.mpr ⟨hw, by rw [hg]; rfl⟩))
theorem znm_fit : ∀ n ∈ znm, Bundle.fit n = true := by decide +kernel
