/-- the fields of a class: 0 an int, 1 a boolean, 2 a reference; whether final -/
noncomputable def zft : Nat → List (Nat × Bool) := fun c => match c with
  | 0 => [(1, false), (0, false), (0, false), (0, false), (2, true), (0, false), (0, false), (0, false), (2, true), (0, false)]
  | 1 => [(0, false), (0, false), (0, false), (0, false)]
  | 2 => [(2, true), (0, false), (0, false)]
  | 3 => [(2, true), (2, true), (2, true), (2, true), (2, true), (0, false), (0, false), (0, false), (0, false), (0, false), (2, true), (2, true), (0, false), (2, true)]
  | 4 => [(2, true), (2, true), (2, true), (2, true), (2, true), (2, true), (0, false), (0, false), (1, false), (1, false)]
  | 5 => [(2, true), (2, true), (0, false), (0, false), (0, false)]
  | 6 => [(2, true), (2, true), (0, false), (0, false), (0, false), (0, false), (0, false), (0, false), (2, true), (2, true)]
  | 7 => [(2, true), (0, false)]
  | 8 => [(2, true), (2, true), (2, true), (1, false), (2, true), (0, false), (0, false), (2, true), (2, true), (2, true)]
  | 9 => [(0, false), (2, true), (2, true), (2, true), (1, false), (1, false), (2, true), (0, false), (0, false), (0, false), (0, false), (0, false), (2, true), (2, true), (2, true), (2, true), (0, false)]
  | _ => []
noncomputable def zty : Nat → Nat → FieldType := fun c => match c with
  | 0 => tyX0
  | 1 => tyX1
  | 2 => tyX2
  | 3 => tyX3
  | 4 => tyX4
  | 5 => tyX5
  | 6 => tyX6
  | 7 => tyX7
  | 8 => tyX8
  | _ => tyX9
theorem zin_0 : ∀ w ∈ u_ws RX0 TX0 10, w ∈ zWs := fun w h => by
  have h1 := goodIn_r (big := lw_tbl) (u_ws RX0 TX0 10) [215, 217, 219, 221, 223, 225, 227, 229, 231, 233] (by decide +kernel) (by decide +kernel) w h
  exact List.mem_filter.mpr ⟨h1.1, List.all_eq_true.mp (show (u_ws RX0 TX0 10).all goodWord = true by decide +kernel) w h⟩
theorem zin_1 : ∀ w ∈ u_ws RX1 TX1 4, w ∈ zWs := fun w h => by
  have h1 := goodIn_r (big := lw_tbl) (u_ws RX1 TX1 4) [168, 170, 172, 174] (by decide +kernel) (by decide +kernel) w h
  exact List.mem_filter.mpr ⟨h1.1, List.all_eq_true.mp (show (u_ws RX1 TX1 4).all goodWord = true by decide +kernel) w h⟩
theorem zin_2 : ∀ w ∈ u_ws RX2 TX2 3, w ∈ zWs := fun w h => by
  have h1 := goodIn_r (big := lw_tbl) (u_ws RX2 TX2 3) [295, 297, 299] (by decide +kernel) (by decide +kernel) w h
  exact List.mem_filter.mpr ⟨h1.1, List.all_eq_true.mp (show (u_ws RX2 TX2 3).all goodWord = true by decide +kernel) w h⟩
theorem zin_3 : ∀ w ∈ u_ws RX3 TX3 14, w ∈ zWs := fun w h => by
  have h1 := goodIn_r (big := lw_tbl) (u_ws RX3 TX3 14) [337, 339, 341, 343, 345, 347, 349, 351, 353, 355, 357, 359, 361, 363] (by decide +kernel) (by decide +kernel) w h
  exact List.mem_filter.mpr ⟨h1.1, List.all_eq_true.mp (show (u_ws RX3 TX3 14).all goodWord = true by decide +kernel) w h⟩
theorem zin_4 : ∀ w ∈ u_ws RX4 TX4 10, w ∈ zWs := fun w h => by
  have h1 := goodIn_r (big := lw_tbl) (u_ws RX4 TX4 10) [419, 421, 423, 425, 427, 429, 431, 433, 435, 437] (by decide +kernel) (by decide +kernel) w h
  exact List.mem_filter.mpr ⟨h1.1, List.all_eq_true.mp (show (u_ws RX4 TX4 10).all goodWord = true by decide +kernel) w h⟩
theorem zin_5 : ∀ w ∈ u_ws RX5 TX5 5, w ∈ zWs := fun w h => by
  have h1 := goodIn_r (big := lw_tbl) (u_ws RX5 TX5 5) [377, 379, 381, 383, 385] (by decide +kernel) (by decide +kernel) w h
  exact List.mem_filter.mpr ⟨h1.1, List.all_eq_true.mp (show (u_ws RX5 TX5 5).all goodWord = true by decide +kernel) w h⟩
theorem zin_6 : ∀ w ∈ u_ws RX6 TX6 10, w ∈ zWs := fun w h => by
  have h1 := goodIn_r (big := lw_tbl) (u_ws RX6 TX6 10) [264, 266, 268, 270, 272, 274, 276, 278, 280, 282] (by decide +kernel) (by decide +kernel) w h
  exact List.mem_filter.mpr ⟨h1.1, List.all_eq_true.mp (show (u_ws RX6 TX6 10).all goodWord = true by decide +kernel) w h⟩
theorem zin_7 : ∀ w ∈ u_ws RX7 TX7 2, w ∈ zWs := fun w h => by
  have h1 := goodIn_r (big := lw_tbl) (u_ws RX7 TX7 2) [397, 399] (by decide +kernel) (by decide +kernel) w h
  exact List.mem_filter.mpr ⟨h1.1, List.all_eq_true.mp (show (u_ws RX7 TX7 2).all goodWord = true by decide +kernel) w h⟩
theorem zin_8 : ∀ w ∈ u_ws RX8 TX8 10, w ∈ zWs := fun w h => by
  have h1 := goodIn_r (big := lw_tbl) (u_ws RX8 TX8 10) [450, 452, 454, 456, 458, 460, 462, 464, 466, 468] (by decide +kernel) (by decide +kernel) w h
  exact List.mem_filter.mpr ⟨h1.1, List.all_eq_true.mp (show (u_ws RX8 TX8 10).all goodWord = true by decide +kernel) w h⟩
theorem zin_9 : ∀ w ∈ u_ws RX9 TX9 17, w ∈ zWs := fun w h => by
  have h1 := goodIn_r (big := lw_tbl) (u_ws RX9 TX9 17) [1314, 1316, 1318, 1320, 1322, 1324, 1326, 1328, 1330, 1332, 1334, 1336, 1338, 1340, 1342, 1344, 1346] (by decide +kernel) (by decide +kernel) w h
  exact List.mem_filter.mpr ⟨h1.1, List.all_eq_true.mp (show (u_ws RX9 TX9 17).all goodWord = true by decide +kernel) w h⟩
noncomputable def zcpl : List (Nat × Nat) := [(186, 111), (148, 109), (286, 112), (141, 108), (403, 115), (367, 113), (180, 110), (390, 114), (133, 107), (1292, 116)]
noncomputable def zcck : Bool := (List.range 10).all (fun c => match vwCl[c]?, zcpl[c]? with
  | some q, some r => decide (q.1 = zcn c) && decide (lw_tbl[r.1]? = some (.instantiable q.1 q.2.2)) && decide (lw_tbl[r.2]? = some (.initialized q.1)) && decide ((zft c).length = q.2.2) && (List.range q.2.2).all (fun k => decide ((q.2.1 k).1 = q.1) && match (zft c)[k]? with
    | some (t, f) => decide ((q.2.1 k).2.2.2 = f) && (match t, zty c k with | 0, .int => true | 1, .boolean => true | 2, .array _ => true | 2, .object _ => true | _, _ => false)
    | none => false)
  | _, _ => false)
theorem zcck_ok : zcck = true := by decide +kernel
theorem zcl_lt {ci : Nat} {q : vw_C} (h : vwCl[ci]? = some q) : ci < 10 := (List.getElem?_eq_some_iff.mp h).1
theorem zcl_in {ci : Nat} {q : vw_C} (h : vwCl[ci]? = some q) : ∀ w ∈ u_ws q.1 q.2.1 q.2.2, w ∈ zWs := by
  match ci, h with
  | 0, h => cases h; exact zin_0
  | 1, h => cases h; exact zin_1
  | 2, h => cases h; exact zin_2
  | 3, h => cases h; exact zin_3
  | 4, h => cases h; exact zin_4
  | 5, h => cases h; exact zin_5
  | 6, h => cases h; exact zin_6
  | 7, h => cases h; exact zin_7
  | 8, h => cases h; exact zin_8
  | 9, h => cases h; exact zin_9
  | k + 10, h => exact absurd (zcl_lt h) (by omega)
theorem zcl_ty {ci : Nat} {q : vw_C} (h : vwCl[ci]? = some q) : ∀ k, k < q.2.2 → parseFieldDescriptor (q.2.1 k).2.2.1 = some (zty ci k) := by
  match ci, h with
  | 0, h => cases h; exact tyX0_ok
  | 1, h => cases h; exact tyX1_ok
  | 2, h => cases h; exact tyX2_ok
  | 3, h => cases h; exact tyX3_ok
  | 4, h => cases h; exact tyX4_ok
  | 5, h => cases h; exact tyX5_ok
  | 6, h => cases h; exact tyX6_ok
  | 7, h => cases h; exact tyX7_ok
  | 8, h => cases h; exact tyX8_ok
  | 9, h => cases h; exact tyX9_ok
  | k + 10, h => exact absurd (zcl_lt h) (by omega)
theorem zcl_nm {ci : Nat} {q : vw_C} (h : vwCl[ci]? = some q) : ∀ a, a < q.2.2 → ∀ b, b < q.2.2 → a ≠ b → (q.2.1 a).2.1 ≠ (q.2.1 b).2.1 := by
  match ci, h with
  | 0, h => cases h; exact nmX0
  | 1, h => cases h; exact nmX1
  | 2, h => cases h; exact nmX2
  | 3, h => cases h; exact nmX3
  | 4, h => cases h; exact nmX4
  | 5, h => cases h; exact nmX5
  | 6, h => cases h; exact nmX6
  | 7, h => cases h; exact nmX7
  | 8, h => cases h; exact nmX8
  | 9, h => cases h; exact nmX9
  | k + 10, h => exact absurd (zcl_lt h) (by omega)
theorem zarr_i : Cond.arrayClass .int ∈ zWs := List.mem_filter.mpr ⟨List.mem_of_getElem? (i := 177) (by decide +kernel), rfl⟩
theorem zarr_b : Cond.arrayClass .byte ∈ zWs := List.mem_filter.mpr ⟨List.mem_of_getElem? (i := 388) (by decide +kernel), rfl⟩
theorem zarr_l : Cond.arrayClass .long ∈ zWs := List.mem_filter.mpr ⟨List.mem_of_getElem? (i := 1820) (by decide +kernel), rfl⟩
theorem zob_i : Cond.instanceMethod Lib.objectInit ∈ zWs := List.mem_filter.mpr ⟨List.mem_of_getElem? (i := 138) (by decide +kernel), rfl⟩
theorem zob_c : Cond.code Lib.objectInit ⟨#[0xb1]⟩ 1 none ∈ zWs := List.mem_filter.mpr ⟨List.mem_of_getElem? (i := 139) (by decide +kernel), rfl⟩
theorem zac_n : Cond.native arraycopyName ∈ zWs := List.mem_filter.mpr ⟨List.mem_of_getElem? (i := 505) (by decide +kernel), rfl⟩
theorem zac_s : Cond.static arraycopyName ∈ zWs := List.mem_filter.mpr ⟨List.mem_of_getElem? (i := 504) (by decide +kernel), rfl⟩
theorem zac_i : Cond.initialized "java/lang/System" ∈ zWs := List.mem_filter.mpr ⟨List.mem_of_getElem? (i := 117) (by decide +kernel), rfl⟩
noncomputable def zpck (c : Nat) : Bool := (zfp c).all (fun e => match vwCl[e.2.1]? with
    | some q => decide (e.2.2.1 < q.2.2) && decide (lw_tbl[e.2.2.2]? = some (.fieldLink (zcn c) e.1 (q.2.1 e.2.2.1).1 (q.2.1 e.2.2.1).2.1 (q.2.1 e.2.2.1).2.2.1))
    | none => false) && (zcp c).all (fun e => match vwCl[e.2.1]? with
    | some q => decide (lw_tbl[e.2.2]? = some (.classLink (zcn c) e.1 q.1))
    | none => false) && (zmp c).all (fun e => match e.2.1 with
    | 4 => decide (lw_tbl[e.2.2.2]? = some (.methodLink (zcn c) e.1 Lib.objectInit))
    | 5 => decide (lw_tbl[e.2.2.2]? = some (.methodLink (zcn c) e.1 arraycopyName))
    | 6 => decide (lw_tbl[e.2.2.2]? = some (.methodLink (zcn c) e.1 yJ0_length_8abf5))
    | 7 => decide (lw_tbl[e.2.2.2]? = some (.methodLink (zcn c) e.1 yJ0_charAt_5068e))
    | _ => true)
theorem zpck_ok : (List.range 13).all zpck = true := by decide +kernel
theorem zfp_ge {c : Nat} (h : 13 ≤ c) : zfp c = [] := by unfold zfp; split <;> first | rfl | omega
theorem zcp_ge {c : Nat} (h : 13 ≤ c) : zcp c = [] := by unfold zcp; split <;> first | rfl | omega
theorem zmp_ge {c : Nat} (h : 13 ≤ c) : zmp c = [] := by unfold zmp; split <;> first | rfl | omega
