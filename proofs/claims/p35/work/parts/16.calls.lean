theorem zmc_ge {c : Nat} (h : 13 ≤ c) : zmc c = [] := by unfold zmc; split <;> first | rfl | omega
noncomputable def zcw (q : zMt) : Cond := if q.2.2.2.2.1 = [] then .code q.1 q.2.1 q.2.2.1 q.2.2.2.1 else .codeWith q.1 q.2.1 q.2.2.1 q.2.2.2.1 q.2.2.2.2.1
noncomputable def zplj (j : Nat) : Option (Nat × Nat × Nat × Nat) := (zpl (j / 200))[j % 200]?
theorem zall_app {α : Type} {f : α → Bool} {a b : List α} (ha : a.all f = true) (hb : b.all f = true) : (a ++ b).all f = true := by rw [List.all_append, ha, hb]; rfl
/-- the calls of a class's pool -/
noncomputable def zmpe (c : Nat) (e : Nat × Nat × Nat × Nat) : Bool := match zent e.2.2.1, zplj e.2.2.1 with
  | some q, some pl => (match e.2.1 with
    | 0 => decide (lw_tbl[e.2.2.2]? = some (.methodLink (zcn c) e.1 q.1)) && decide (lw_tbl[pl.2.1]? = some (.instanceMethod q.1)) && decide (lw_tbl[pl.2.2.1]? = some (.selects q.1.cls q.1 q.1)) && q.2.2.2.2.1.isEmpty && Nat.blt (e.2.2.1 / 200) 10
    | 1 => decide (lw_tbl[e.2.2.2]? = some (.methodLink (zcn c) e.1 q.1)) && decide (lw_tbl[pl.2.1]? = some (.static q.1)) && (e.2.2.1 != 2024)
    | 2 => decide (lw_tbl[e.2.2.2]? = some (.methodLink (zcn c) e.1 q.1)) && decide (lw_tbl[pl.2.1]? = some (.instanceMethod q.1)) && zini e.2.2.1 && q.2.2.2.2.1.isEmpty && decide (q.2.2.2.1 = none) && Nat.blt (e.2.2.1 / 200) 10
    | 3 => decide (Cond.methodLinkNest (zcn c) e.1 q.1 "ElidedLocks" ∈ zNs) && decide (lw_tbl[pl.2.1]? = some (.instanceMethod q.1)) && zini e.2.2.1 && q.2.2.2.2.1.isEmpty && decide (q.2.2.2.1 = none) && Nat.blt (e.2.2.1 / 200) 10
    | _ => true)
  | _, _ => (match e.2.1 with
    | 0 | 1 | 2 | 3 => false
    | _ => true)
theorem zmpe_0 {c idx j pos : Nat} {q : zMt} {pl : Nat × Nat × Nat × Nat} (hq : zent j = some q) (hp : zplj j = some pl) (h1 : lw_tbl[pos]? = some (.methodLink (zcn c) idx q.1)) (h2 : lw_tbl[pl.2.1]? = some (.instanceMethod q.1)) (h3 : lw_tbl[pl.2.2.1]? = some (.selects q.1.cls q.1 q.1)) (h4 : q.2.2.2.2.1.isEmpty = true) (h5 : Nat.blt (j / 200) 10 = true) : zmpe c (idx, 0, j, pos) = true := by
  unfold zmpe
  dsimp only
  rw [hq, hp]
  dsimp only
  rw [decide_eq_true h1, decide_eq_true h2, decide_eq_true h3, h4, h5]
  rfl
theorem zmpe_1 {c idx j pos : Nat} {q : zMt} {pl : Nat × Nat × Nat × Nat} (hq : zent j = some q) (hp : zplj j = some pl) (h1 : lw_tbl[pos]? = some (.methodLink (zcn c) idx q.1)) (h2 : lw_tbl[pl.2.1]? = some (.static q.1)) (h3 : (j != 2024) = true) : zmpe c (idx, 1, j, pos) = true := by
  unfold zmpe
  dsimp only
  rw [hq, hp]
  dsimp only
  rw [decide_eq_true h1, decide_eq_true h2, h3]
  rfl
theorem zmpe_2 {c idx j pos : Nat} {q : zMt} {pl : Nat × Nat × Nat × Nat} (hq : zent j = some q) (hp : zplj j = some pl) (h1 : lw_tbl[pos]? = some (.methodLink (zcn c) idx q.1)) (h2 : lw_tbl[pl.2.1]? = some (.instanceMethod q.1)) (h3 : zini j = true) (h4 : q.2.2.2.2.1.isEmpty = true) (h5 : q.2.2.2.1 = none) (h6 : Nat.blt (j / 200) 10 = true) : zmpe c (idx, 2, j, pos) = true := by
  unfold zmpe
  dsimp only
  rw [hq, hp]
  dsimp only
  rw [decide_eq_true h1, decide_eq_true h2, h3, h4, decide_eq_true h5, h6]
  rfl
theorem zmx_0_0 : zmpe 0 (3, 4, 0, 190) = true := by decide +kernel
theorem zmx_0_1 : zmpe 0 (32, 5, 0, 519) = true := by decide +kernel
theorem zmq_0 : ∀ e ∈ zmp 0, zmpe 0 e = true := List.forall_mem_cons.mpr ⟨zmx_0_0, List.forall_mem_cons.mpr ⟨zmx_0_1, (fun _ h => nomatch h)⟩⟩
theorem zmx_1_0 : zmpe 1 (3, 4, 0, 152) = true := by decide +kernel
theorem zmq_1 : ∀ e ∈ zmp 1, zmpe 1 e = true := List.forall_mem_cons.mpr ⟨zmx_1_0, (fun _ h => nomatch h)⟩
theorem zmx_2_0 : zmpe 2 (3, 4, 0, 290) = true := by decide +kernel
theorem zmx_2_1 : zmpe 2 (15, 5, 0, 524) = true := by decide +kernel
theorem zmx_2_2 : zmpe 2 (28, 1, 2400, 1259) = true := zmpe_1 rfl rfl (zlw_5 (i := 193) rfl) (zlw_5 (i := 194) rfl) rfl
theorem zmq_2 : ∀ e ∈ zmp 2, zmpe 2 e = true := List.forall_mem_cons.mpr ⟨zmx_2_0, List.forall_mem_cons.mpr ⟨zmx_2_1, List.forall_mem_cons.mpr ⟨zmx_2_2, (fun _ h => nomatch h)⟩⟩⟩
theorem zmx_3_0 : zmpe 3 (3, 4, 0, 145) = true := by decide +kernel
theorem zmx_3_1 : zmpe 3 (23, 2, 200, 149) = true := zmpe_2 rfl rfl (zlw_1 (i := 43) rfl) (zlw_1 (i := 44) rfl) rfl rfl rfl rfl
theorem zmx_3_2 : zmpe 3 (32, 3, 1200, 181) = true := by decide +kernel
theorem zmx_3_3 : zmpe 3 (52, 3, 400, 287) = true := by decide +kernel
theorem zmx_3_4 : zmpe 3 (57, 5, 0, 503) = true := by decide +kernel
theorem zmx_3_5 : zmpe 3 (63, 0, 201, 506) = true := zmpe_0 rfl rfl (zlw_2 (i := 160) rfl) (zlw_2 (i := 161) rfl) (zlw_2 (i := 162) rfl) rfl rfl
theorem zmx_3_6 : zmpe 3 (70, 0, 1201, 510) = true := zmpe_0 rfl rfl (zlw_2 (i := 164) rfl) (zlw_2 (i := 165) rfl) (zlw_2 (i := 166) rfl) rfl rfl
theorem zmx_3_7 : zmpe 3 (82, 0, 401, 520) = true := zmpe_0 rfl rfl (zlw_2 (i := 174) rfl) (zlw_2 (i := 175) rfl) (zlw_2 (i := 176) rfl) rfl rfl
theorem zmx_3_8 : zmpe 3 (112, 0, 608, 529) = true := zmpe_0 rfl rfl (zlw_2 (i := 183) rfl) (zlw_2 (i := 184) rfl) (zlw_2 (i := 185) rfl) rfl rfl
theorem zmx_3_9 : zmpe 3 (108, 0, 602, 533) = true := zmpe_0 rfl rfl (zlw_2 (i := 187) rfl) (zlw_2 (i := 188) rfl) (zlw_2 (i := 189) rfl) rfl rfl
theorem zmx_3_10 : zmpe 3 (116, 0, 1206, 537) = true := zmpe_0 rfl rfl (zlw_2 (i := 191) rfl) (zlw_2 (i := 192) rfl) (zlw_2 (i := 193) rfl) rfl rfl
theorem zmx_3_11 : zmpe 3 (136, 0, 1205, 547) = true := zmpe_0 rfl rfl (zlw_2 (i := 201) rfl) (zlw_2 (i := 202) rfl) (zlw_2 (i := 203) rfl) rfl rfl
theorem zmx_3_12 : zmpe 3 (139, 0, 1204, 551) = true := zmpe_0 rfl rfl (zlw_2 (i := 205) rfl) (zlw_2 (i := 206) rfl) (zlw_2 (i := 207) rfl) rfl rfl
theorem zmx_3_13 : zmpe 3 (142, 0, 614, 555) = true := zmpe_0 rfl rfl (zlw_2 (i := 209) rfl) (zlw_2 (i := 211) rfl) (zlw_0 (i := 2) rfl) rfl rfl
theorem zmx_3_14 : zmpe 3 (183, 0, 603, 559) = true := zmpe_0 rfl rfl (zlw_2 (i := 213) rfl) (zlw_2 (i := 214) rfl) (zlw_2 (i := 215) rfl) rfl rfl
theorem zmx_3_15 : zmpe 3 (158, 0, 620, 563) = true := zmpe_0 rfl rfl (zlw_2 (i := 217) rfl) (zlw_2 (i := 218) rfl) (zlw_2 (i := 219) rfl) rfl rfl
theorem zmx_3_16 : zmpe 3 (203, 0, 604, 567) = true := zmpe_0 rfl rfl (zlw_2 (i := 221) rfl) (zlw_2 (i := 222) rfl) (zlw_2 (i := 223) rfl) rfl rfl
theorem zmx_3_17 : zmpe 3 (85, 1, 2401, 571) = true := zmpe_1 rfl rfl (zlw_2 (i := 225) rfl) (zlw_2 (i := 226) rfl) rfl
theorem zmx_3_18 : zmpe 3 (238, 0, 606, 574) = true := zmpe_0 rfl rfl (zlw_2 (i := 228) rfl) (zlw_2 (i := 229) rfl) (zlw_2 (i := 230) rfl) rfl rfl
theorem zmx_3_19 : zmpe 3 (241, 0, 621, 578) = true := zmpe_0 rfl rfl (zlw_2 (i := 232) rfl) (zlw_2 (i := 234) rfl) (zlw_0 (i := 3) rfl) rfl rfl
theorem zmx_3_20 : zmpe 3 (123, 1, 2200, 582) = true := zmpe_1 rfl rfl (zlw_2 (i := 236) rfl) (zlw_2 (i := 237) rfl) rfl
theorem zmx_3_21 : zmpe 3 (176, 0, 624, 588) = true := zmpe_0 rfl rfl (zlw_3 (i := 2) rfl) (zlw_3 (i := 4) rfl) (zlw_0 (i := 4) rfl) rfl rfl
theorem zmx_3_22 : zmpe 3 (274, 0, 203, 592) = true := zmpe_0 rfl rfl (zlw_3 (i := 6) rfl) (zlw_3 (i := 7) rfl) (zlw_3 (i := 8) rfl) rfl rfl
theorem zmx_3_23 : zmpe 3 (231, 0, 3, 596) = true := zmpe_0 rfl rfl (zlw_3 (i := 10) rfl) (zlw_3 (i := 11) rfl) (zlw_3 (i := 12) rfl) rfl rfl
theorem zmx_3_24 : zmpe 3 (179, 0, 402, 600) = true := zmpe_0 rfl rfl (zlw_3 (i := 14) rfl) (zlw_3 (i := 15) rfl) (zlw_3 (i := 16) rfl) rfl rfl
theorem zmx_3_25 : zmpe 3 (245, 0, 622, 604) = true := zmpe_0 rfl rfl (zlw_3 (i := 18) rfl) (zlw_3 (i := 20) rfl) (zlw_0 (i := 5) rfl) rfl rfl
theorem zmx_3_26 : zmpe 3 (252, 0, 623, 608) = true := zmpe_0 rfl rfl (zlw_3 (i := 22) rfl) (zlw_3 (i := 24) rfl) (zlw_0 (i := 6) rfl) rfl rfl
theorem zmx_3_27 : zmpe 3 (256, 0, 7, 612) = true := zmpe_0 rfl rfl (zlw_3 (i := 26) rfl) (zlw_3 (i := 27) rfl) (zlw_3 (i := 28) rfl) rfl rfl
theorem zmx_3_28 : zmpe 3 (215, 0, 4, 616) = true := zmpe_0 rfl rfl (zlw_3 (i := 30) rfl) (zlw_3 (i := 31) rfl) (zlw_3 (i := 32) rfl) rfl rfl
theorem zmx_3_29 : zmpe 3 (218, 0, 605, 620) = true := zmpe_0 rfl rfl (zlw_3 (i := 34) rfl) (zlw_3 (i := 35) rfl) (zlw_3 (i := 36) rfl) rfl rfl
theorem zmx_3_30 : zmpe 3 (101, 0, 8, 624) = true := zmpe_0 rfl rfl (zlw_3 (i := 38) rfl) (zlw_3 (i := 39) rfl) (zlw_3 (i := 40) rfl) rfl rfl
theorem zmx_3_31 : zmpe 3 (200, 0, 5, 628) = true := zmpe_0 rfl rfl (zlw_3 (i := 42) rfl) (zlw_3 (i := 43) rfl) (zlw_3 (i := 44) rfl) rfl rfl
theorem zmx_3_32 : zmpe 3 (146, 0, 613, 632) = true := zmpe_0 rfl rfl (zlw_3 (i := 46) rfl) (zlw_3 (i := 48) rfl) (zlw_0 (i := 7) rfl) rfl rfl
theorem zmx_3_33 : zmpe 3 (196, 0, 2, 636) = true := zmpe_0 rfl rfl (zlw_3 (i := 50) rfl) (zlw_3 (i := 51) rfl) (zlw_3 (i := 52) rfl) rfl rfl
theorem zmx_3_34 : zmpe 3 (212, 0, 202, 640) = true := zmpe_0 rfl rfl (zlw_3 (i := 54) rfl) (zlw_3 (i := 55) rfl) (zlw_3 (i := 56) rfl) rfl rfl
theorem zmx_3_35 : zmpe 3 (149, 0, 615, 644) = true := zmpe_0 rfl rfl (zlw_3 (i := 58) rfl) (zlw_3 (i := 60) rfl) (zlw_0 (i := 8) rfl) rfl rfl
theorem zmx_3_36 : zmpe 3 (224, 0, 6, 648) = true := zmpe_0 rfl rfl (zlw_3 (i := 62) rfl) (zlw_3 (i := 63) rfl) (zlw_3 (i := 64) rfl) rfl rfl
theorem zmx_3_37 : zmpe 3 (227, 0, 616, 652) = true := zmpe_0 rfl rfl (zlw_3 (i := 66) rfl) (zlw_3 (i := 68) rfl) (zlw_0 (i := 9) rfl) rfl rfl
theorem zmx_3_38 : zmpe 3 (152, 0, 617, 656) = true := zmpe_0 rfl rfl (zlw_3 (i := 70) rfl) (zlw_3 (i := 72) rfl) (zlw_0 (i := 10) rfl) rfl rfl
theorem zmx_3_39 : zmpe 3 (162, 0, 618, 660) = true := zmpe_0 rfl rfl (zlw_3 (i := 74) rfl) (zlw_3 (i := 76) rfl) (zlw_0 (i := 11) rfl) rfl rfl
theorem zmx_3_40 : zmpe 3 (166, 0, 619, 664) = true := zmpe_0 rfl rfl (zlw_3 (i := 78) rfl) (zlw_3 (i := 80) rfl) (zlw_0 (i := 12) rfl) rfl rfl
theorem zmx_3_41 : zmpe 3 (170, 0, 612, 668) = true := zmpe_0 rfl rfl (zlw_3 (i := 82) rfl) (zlw_3 (i := 84) rfl) (zlw_0 (i := 13) rfl) rfl rfl
theorem zmx_3_42 : zmpe 3 (120, 0, 627, 1154) = true := zmpe_0 rfl rfl (zlw_5 (i := 88) rfl) (zlw_3 (i := 164) rfl) (zlw_3 (i := 165) rfl) rfl rfl
theorem zmx_3_43 : zmpe 3 (129, 0, 610, 1155) = true := zmpe_0 rfl rfl (zlw_5 (i := 89) rfl) (zlw_5 (i := 91) rfl) (zlw_0 (i := 33) rfl) rfl rfl
theorem zmq_3 : ∀ e ∈ zmp 3, zmpe 3 e = true := List.forall_mem_cons.mpr ⟨zmx_3_0, List.forall_mem_cons.mpr ⟨zmx_3_1, List.forall_mem_cons.mpr ⟨zmx_3_2, List.forall_mem_cons.mpr ⟨zmx_3_3, List.forall_mem_cons.mpr ⟨zmx_3_4, List.forall_mem_cons.mpr ⟨zmx_3_5, List.forall_mem_cons.mpr ⟨zmx_3_6, List.forall_mem_cons.mpr ⟨zmx_3_7, List.forall_mem_cons.mpr ⟨zmx_3_8, List.forall_mem_cons.mpr ⟨zmx_3_9, List.forall_mem_cons.mpr ⟨zmx_3_10, List.forall_mem_cons.mpr ⟨zmx_3_11, List.forall_mem_cons.mpr ⟨zmx_3_12, List.forall_mem_cons.mpr ⟨zmx_3_13, List.forall_mem_cons.mpr ⟨zmx_3_14, List.forall_mem_cons.mpr ⟨zmx_3_15, List.forall_mem_cons.mpr ⟨zmx_3_16, List.forall_mem_cons.mpr ⟨zmx_3_17, List.forall_mem_cons.mpr ⟨zmx_3_18, List.forall_mem_cons.mpr ⟨zmx_3_19, List.forall_mem_cons.mpr ⟨zmx_3_20, List.forall_mem_cons.mpr ⟨zmx_3_21, List.forall_mem_cons.mpr ⟨zmx_3_22, List.forall_mem_cons.mpr ⟨zmx_3_23, List.forall_mem_cons.mpr ⟨zmx_3_24, List.forall_mem_cons.mpr ⟨zmx_3_25, List.forall_mem_cons.mpr ⟨zmx_3_26, List.forall_mem_cons.mpr ⟨zmx_3_27, List.forall_mem_cons.mpr ⟨zmx_3_28, List.forall_mem_cons.mpr ⟨zmx_3_29, List.forall_mem_cons.mpr ⟨zmx_3_30, List.forall_mem_cons.mpr ⟨zmx_3_31, List.forall_mem_cons.mpr ⟨zmx_3_32, List.forall_mem_cons.mpr ⟨zmx_3_33, List.forall_mem_cons.mpr ⟨zmx_3_34, List.forall_mem_cons.mpr ⟨zmx_3_35, List.forall_mem_cons.mpr ⟨zmx_3_36, List.forall_mem_cons.mpr ⟨zmx_3_37, List.forall_mem_cons.mpr ⟨zmx_3_38, List.forall_mem_cons.mpr ⟨zmx_3_39, List.forall_mem_cons.mpr ⟨zmx_3_40, List.forall_mem_cons.mpr ⟨zmx_3_41, List.forall_mem_cons.mpr ⟨zmx_3_42, List.forall_mem_cons.mpr ⟨zmx_3_43, (fun _ h => nomatch h)⟩⟩⟩⟩⟩⟩⟩⟩⟩⟩⟩⟩⟩⟩⟩⟩⟩⟩⟩⟩⟩⟩⟩⟩⟩⟩⟩⟩⟩⟩⟩⟩⟩⟩⟩⟩⟩⟩⟩⟩⟩⟩⟩⟩
theorem zmx_4_0 : zmpe 4 (3, 4, 0, 407) = true := by decide +kernel
theorem zmx_4_1 : zmpe 4 (47, 0, 602, 680) = true := zmpe_0 rfl rfl (zlw_3 (i := 94) rfl) (zlw_2 (i := 188) rfl) (zlw_2 (i := 189) rfl) rfl rfl
theorem zmx_4_2 : zmpe 4 (51, 0, 1211, 681) = true := zmpe_0 rfl rfl (zlw_3 (i := 95) rfl) (zlw_3 (i := 96) rfl) (zlw_3 (i := 97) rfl) rfl rfl
theorem zmx_4_3 : zmpe 4 (57, 0, 607, 695) = true := zmpe_0 rfl rfl (zlw_3 (i := 109) rfl) (zlw_2 (i := 180) rfl) (zlw_2 (i := 181) rfl) rfl rfl
theorem zmx_4_4 : zmpe 4 (67, 5, 0, 696) = true := by decide +kernel
theorem zmx_4_5 : zmpe 4 (73, 0, 804, 697) = true := zmpe_0 rfl rfl (zlw_3 (i := 111) rfl) (zlw_3 (i := 113) rfl) (zlw_0 (i := 14) rfl) rfl rfl
theorem zmx_4_6 : zmpe 4 (76, 0, 808, 701) = true := zmpe_0 rfl rfl (zlw_3 (i := 115) rfl) (zlw_3 (i := 117) rfl) (zlw_0 (i := 15) rfl) rfl rfl
theorem zmx_4_7 : zmpe 4 (83, 0, 805, 705) = true := zmpe_0 rfl rfl (zlw_3 (i := 119) rfl) (zlw_3 (i := 121) rfl) (zlw_0 (i := 16) rfl) rfl rfl
theorem zmx_4_8 : zmpe 4 (86, 0, 1210, 709) = true := zmpe_0 rfl rfl (zlw_3 (i := 123) rfl) (zlw_3 (i := 100) rfl) (zlw_3 (i := 101) rfl) rfl rfl
theorem zmx_4_9 : zmpe 4 (90, 0, 1204, 710) = true := zmpe_0 rfl rfl (zlw_3 (i := 124) rfl) (zlw_2 (i := 206) rfl) (zlw_2 (i := 207) rfl) rfl rfl
theorem zmx_4_10 : zmpe 4 (93, 0, 1205, 711) = true := zmpe_0 rfl rfl (zlw_3 (i := 125) rfl) (zlw_2 (i := 202) rfl) (zlw_2 (i := 203) rfl) rfl rfl
theorem zmx_4_11 : zmpe 4 (96, 0, 806, 712) = true := zmpe_0 rfl rfl (zlw_3 (i := 126) rfl) (zlw_3 (i := 128) rfl) (zlw_0 (i := 17) rfl) rfl rfl
theorem zmx_4_12 : zmpe 4 (100, 0, 603, 716) = true := zmpe_0 rfl rfl (zlw_3 (i := 130) rfl) (zlw_2 (i := 214) rfl) (zlw_2 (i := 215) rfl) rfl rfl
theorem zmx_4_13 : zmpe 4 (109, 0, 807, 717) = true := zmpe_0 rfl rfl (zlw_3 (i := 131) rfl) (zlw_3 (i := 133) rfl) (zlw_0 (i := 18) rfl) rfl rfl
theorem zmq_4 : ∀ e ∈ zmp 4, zmpe 4 e = true := List.forall_mem_cons.mpr ⟨zmx_4_0, List.forall_mem_cons.mpr ⟨zmx_4_1, List.forall_mem_cons.mpr ⟨zmx_4_2, List.forall_mem_cons.mpr ⟨zmx_4_3, List.forall_mem_cons.mpr ⟨zmx_4_4, List.forall_mem_cons.mpr ⟨zmx_4_5, List.forall_mem_cons.mpr ⟨zmx_4_6, List.forall_mem_cons.mpr ⟨zmx_4_7, List.forall_mem_cons.mpr ⟨zmx_4_8, List.forall_mem_cons.mpr ⟨zmx_4_9, List.forall_mem_cons.mpr ⟨zmx_4_10, List.forall_mem_cons.mpr ⟨zmx_4_11, List.forall_mem_cons.mpr ⟨zmx_4_12, List.forall_mem_cons.mpr ⟨zmx_4_13, (fun _ h => nomatch h)⟩⟩⟩⟩⟩⟩⟩⟩⟩⟩⟩⟩⟩⟩
theorem zmx_5_0 : zmpe 5 (3, 4, 0, 371) = true := by decide +kernel
theorem zmx_5_1 : zmpe 5 (19, 1, 2402, 778) = true := zmpe_1 rfl rfl (zlw_3 (i := 192) rfl) (zlw_3 (i := 193) rfl) rfl
theorem zmx_5_2 : zmpe 5 (32, 0, 1009, 781) = true := zmpe_0 rfl rfl (zlw_3 (i := 195) rfl) (zlw_3 (i := 197) rfl) (zlw_0 (i := 19) rfl) rfl rfl
theorem zmx_5_3 : zmpe 5 (38, 0, 1002, 785) = true := zmpe_0 rfl rfl (zlw_3 (i := 199) rfl) (zlw_3 (i := 201) rfl) (zlw_0 (i := 20) rfl) rfl rfl
theorem zmx_5_4 : zmpe 5 (48, 0, 1011, 790) = true := zmpe_0 rfl rfl (zlw_3 (i := 204) rfl) (zlw_3 (i := 206) rfl) (zlw_0 (i := 21) rfl) rfl rfl
theorem zmx_5_5 : zmpe 5 (134, 6, 0, 794) = true := by decide +kernel
theorem zmx_5_6 : zmpe 5 (139, 7, 0, 804) = true := by decide +kernel
theorem zmx_5_7 : zmpe 5 (52, 0, 1004, 842) = true := zmpe_0 rfl rfl (zlw_4 (i := 16) rfl) (zlw_4 (i := 18) rfl) (zlw_0 (i := 22) rfl) rfl rfl
theorem zmx_5_8 : zmpe 5 (83, 0, 1012, 846) = true := zmpe_0 rfl rfl (zlw_4 (i := 20) rfl) (zlw_4 (i := 22) rfl) (zlw_0 (i := 23) rfl) rfl rfl
theorem zmx_5_9 : zmpe 5 (86, 0, 603, 850) = true := zmpe_0 rfl rfl (zlw_4 (i := 24) rfl) (zlw_2 (i := 214) rfl) (zlw_2 (i := 215) rfl) rfl rfl
theorem zmx_5_10 : zmpe 5 (55, 0, 1005, 851) = true := zmpe_0 rfl rfl (zlw_4 (i := 25) rfl) (zlw_4 (i := 27) rfl) (zlw_0 (i := 24) rfl) rfl rfl
theorem zmx_5_11 : zmpe 5 (64, 0, 1006, 855) = true := zmpe_0 rfl rfl (zlw_4 (i := 29) rfl) (zlw_4 (i := 31) rfl) (zlw_0 (i := 25) rfl) rfl rfl
theorem zmx_5_12 : zmpe 5 (102, 0, 631, 860) = true := zmpe_0 rfl rfl (zlw_4 (i := 34) rfl) (zlw_4 (i := 35) rfl) (zlw_4 (i := 36) rfl) rfl rfl
theorem zmx_5_13 : zmpe 5 (67, 0, 1003, 864) = true := zmpe_0 rfl rfl (zlw_4 (i := 38) rfl) (zlw_4 (i := 40) rfl) (zlw_0 (i := 26) rfl) rfl rfl
theorem zmx_5_14 : zmpe 5 (71, 0, 1007, 872) = true := zmpe_0 rfl rfl (zlw_4 (i := 46) rfl) (zlw_4 (i := 48) rfl) (zlw_0 (i := 27) rfl) rfl rfl
theorem zmx_5_15 : zmpe 5 (109, 0, 602, 876) = true := zmpe_0 rfl rfl (zlw_4 (i := 50) rfl) (zlw_2 (i := 188) rfl) (zlw_2 (i := 189) rfl) rfl rfl
theorem zmx_5_16 : zmpe 5 (113, 0, 1202, 877) = true := zmpe_0 rfl rfl (zlw_4 (i := 51) rfl) (zlw_4 (i := 52) rfl) (zlw_4 (i := 53) rfl) rfl rfl
theorem zmx_5_17 : zmpe 5 (118, 0, 1008, 882) = true := zmpe_0 rfl rfl (zlw_4 (i := 56) rfl) (zlw_4 (i := 58) rfl) (zlw_0 (i := 28) rfl) rfl rfl
theorem zmx_5_18 : zmpe 5 (130, 0, 1203, 891) = true := zmpe_0 rfl rfl (zlw_4 (i := 65) rfl) (zlw_4 (i := 66) rfl) (zlw_4 (i := 67) rfl) rfl rfl
theorem zmx_5_19 : zmpe 5 (42, 0, 1010, 895) = true := zmpe_0 rfl rfl (zlw_4 (i := 69) rfl) (zlw_4 (i := 71) rfl) (zlw_0 (i := 29) rfl) rfl rfl
theorem zmq_5 : ∀ e ∈ zmp 5, zmpe 5 e = true := List.forall_mem_cons.mpr ⟨zmx_5_0, List.forall_mem_cons.mpr ⟨zmx_5_1, List.forall_mem_cons.mpr ⟨zmx_5_2, List.forall_mem_cons.mpr ⟨zmx_5_3, List.forall_mem_cons.mpr ⟨zmx_5_4, List.forall_mem_cons.mpr ⟨zmx_5_5, List.forall_mem_cons.mpr ⟨zmx_5_6, List.forall_mem_cons.mpr ⟨zmx_5_7, List.forall_mem_cons.mpr ⟨zmx_5_8, List.forall_mem_cons.mpr ⟨zmx_5_9, List.forall_mem_cons.mpr ⟨zmx_5_10, List.forall_mem_cons.mpr ⟨zmx_5_11, List.forall_mem_cons.mpr ⟨zmx_5_12, List.forall_mem_cons.mpr ⟨zmx_5_13, List.forall_mem_cons.mpr ⟨zmx_5_14, List.forall_mem_cons.mpr ⟨zmx_5_15, List.forall_mem_cons.mpr ⟨zmx_5_16, List.forall_mem_cons.mpr ⟨zmx_5_17, List.forall_mem_cons.mpr ⟨zmx_5_18, List.forall_mem_cons.mpr ⟨zmx_5_19, (fun _ h => nomatch h)⟩⟩⟩⟩⟩⟩⟩⟩⟩⟩⟩⟩⟩⟩⟩⟩⟩⟩⟩⟩
theorem zmx_6_0 : zmpe 6 (3, 4, 0, 184) = true := by decide +kernel
theorem zmx_6_1 : zmpe 6 (23, 3, 0, 187) = true := by decide +kernel
theorem zmx_6_2 : zmpe 6 (28, 5, 0, 514) = true := by decide +kernel
theorem zmx_6_3 : zmpe 6 (53, 0, 1, 515) = true := zmpe_0 rfl rfl (zlw_2 (i := 169) rfl) (zlw_2 (i := 170) rfl) (zlw_2 (i := 171) rfl) rfl rfl
theorem zmx_6_4 : zmpe 6 (81, 0, 1210, 685) = true := zmpe_0 rfl rfl (zlw_3 (i := 99) rfl) (zlw_3 (i := 100) rfl) (zlw_3 (i := 101) rfl) rfl rfl
theorem zmx_6_5 : zmpe 6 (64, 0, 1204, 689) = true := zmpe_0 rfl rfl (zlw_3 (i := 103) rfl) (zlw_2 (i := 206) rfl) (zlw_2 (i := 207) rfl) rfl rfl
theorem zmx_6_6 : zmpe 6 (67, 0, 1208, 690) = true := zmpe_0 rfl rfl (zlw_3 (i := 104) rfl) (zlw_3 (i := 105) rfl) (zlw_3 (i := 106) rfl) rfl rfl
theorem zmx_6_7 : zmpe 6 (60, 0, 1205, 694) = true := zmpe_0 rfl rfl (zlw_3 (i := 108) rfl) (zlw_2 (i := 202) rfl) (zlw_2 (i := 203) rfl) rfl rfl
theorem zmx_6_8 : zmpe 6 (57, 0, 3, 881) = true := zmpe_0 rfl rfl (zlw_4 (i := 55) rfl) (zlw_3 (i := 11) rfl) (zlw_3 (i := 12) rfl) rfl rfl
theorem zmx_6_9 : zmpe 6 (71, 1, 2200, 1230) = true := zmpe_1 rfl rfl (zlw_5 (i := 164) rfl) (zlw_2 (i := 237) rfl) rfl
theorem zmx_6_10 : zmpe 6 (76, 1, 2401, 1231) = true := zmpe_1 rfl rfl (zlw_5 (i := 165) rfl) (zlw_2 (i := 226) rfl) rfl
theorem zmq_6 : ∀ e ∈ zmp 6, zmpe 6 e = true := List.forall_mem_cons.mpr ⟨zmx_6_0, List.forall_mem_cons.mpr ⟨zmx_6_1, List.forall_mem_cons.mpr ⟨zmx_6_2, List.forall_mem_cons.mpr ⟨zmx_6_3, List.forall_mem_cons.mpr ⟨zmx_6_4, List.forall_mem_cons.mpr ⟨zmx_6_5, List.forall_mem_cons.mpr ⟨zmx_6_6, List.forall_mem_cons.mpr ⟨zmx_6_7, List.forall_mem_cons.mpr ⟨zmx_6_8, List.forall_mem_cons.mpr ⟨zmx_6_9, List.forall_mem_cons.mpr ⟨zmx_6_10, (fun _ h => nomatch h)⟩⟩⟩⟩⟩⟩⟩⟩⟩⟩⟩
theorem zmx_7_0 : zmpe 7 (3, 4, 0, 394) = true := by decide +kernel
theorem zmx_7_1 : zmpe 7 (21, 0, 1404, 1274) = true := zmpe_0 rfl rfl (zlw_5 (i := 208) rfl) (zlw_5 (i := 210) rfl) (zlw_0 (i := 34) rfl) rfl rfl
theorem zmx_7_2 : zmpe 7 (46, 6, 0, 1278) = true := by decide +kernel
theorem zmx_7_3 : zmpe 7 (51, 7, 0, 1279) = true := by decide +kernel
theorem zmx_7_4 : zmpe 7 (30, 0, 1403, 1280) = true := zmpe_0 rfl rfl (zlw_5 (i := 214) rfl) (zlw_5 (i := 216) rfl) (zlw_0 (i := 35) rfl) rfl rfl
theorem zmx_7_5 : zmpe 7 (36, 0, 1204, 1285) = true := zmpe_0 rfl rfl (zlw_5 (i := 219) rfl) (zlw_2 (i := 206) rfl) (zlw_2 (i := 207) rfl) rfl rfl
theorem zmx_7_6 : zmpe 7 (40, 0, 1205, 1286) = true := zmpe_0 rfl rfl (zlw_5 (i := 220) rfl) (zlw_2 (i := 202) rfl) (zlw_2 (i := 203) rfl) rfl rfl
theorem zmx_7_7 : zmpe 7 (43, 0, 1405, 1287) = true := zmpe_0 rfl rfl (zlw_5 (i := 221) rfl) (zlw_5 (i := 223) rfl) (zlw_0 (i := 36) rfl) rfl rfl
theorem zmq_7 : ∀ e ∈ zmp 7, zmpe 7 e = true := List.forall_mem_cons.mpr ⟨zmx_7_0, List.forall_mem_cons.mpr ⟨zmx_7_1, List.forall_mem_cons.mpr ⟨zmx_7_2, List.forall_mem_cons.mpr ⟨zmx_7_3, List.forall_mem_cons.mpr ⟨zmx_7_4, List.forall_mem_cons.mpr ⟨zmx_7_5, List.forall_mem_cons.mpr ⟨zmx_7_6, List.forall_mem_cons.mpr ⟨zmx_7_7, (fun _ h => nomatch h)⟩⟩⟩⟩⟩⟩⟩⟩
theorem zmx_8_0 : zmpe 8 (3, 4, 0, 137) = true := by decide +kernel
theorem zmx_8_1 : zmpe 8 (11, 3, 600, 142) = true := by decide +kernel
theorem zmx_8_2 : zmpe 8 (32, 2, 1000, 368) = true := zmpe_2 rfl rfl (zlw_2 (i := 22) rfl) (zlw_2 (i := 23) rfl) rfl rfl rfl rfl
theorem zmx_8_3 : zmpe 8 (41, 3, 1400, 391) = true := by decide +kernel
theorem zmx_8_4 : zmpe 8 (48, 2, 800, 404) = true := zmpe_2 rfl rfl (zlw_2 (i := 58) rfl) (zlw_2 (i := 59) rfl) rfl rfl rfl rfl
theorem zmx_8_5 : zmpe 8 (58, 0, 1602, 475) = true := zmpe_0 rfl rfl (zlw_2 (i := 129) rfl) (zlw_2 (i := 131) rfl) (zlw_0 (i := 0) rfl) rfl rfl
theorem zmx_8_6 : zmpe 8 (251, 0, 1625, 495) = true := zmpe_0 rfl rfl (zlw_2 (i := 149) rfl) (zlw_2 (i := 151) rfl) (zlw_0 (i := 1) rfl) rfl rfl
theorem zmx_8_7 : zmpe 8 (62, 0, 601, 499) = true := zmpe_0 rfl rfl (zlw_2 (i := 153) rfl) (zlw_2 (i := 154) rfl) (zlw_2 (i := 155) rfl) rfl rfl
theorem zmx_8_8 : zmpe 8 (254, 0, 607, 525) = true := zmpe_0 rfl rfl (zlw_2 (i := 179) rfl) (zlw_2 (i := 180) rfl) (zlw_2 (i := 181) rfl) rfl rfl
theorem zmx_8_9 : zmpe 8 (229, 0, 608, 541) = true := zmpe_0 rfl rfl (zlw_2 (i := 195) rfl) (zlw_2 (i := 184) rfl) (zlw_2 (i := 185) rfl) rfl rfl
theorem zmx_8_10 : zmpe 8 (216, 0, 611, 543) = true := zmpe_0 rfl rfl (zlw_2 (i := 197) rfl) (zlw_2 (i := 198) rfl) (zlw_2 (i := 199) rfl) rfl rfl
theorem zmx_8_11 : zmpe 8 (271, 0, 803, 676) = true := zmpe_0 rfl rfl (zlw_3 (i := 90) rfl) (zlw_3 (i := 91) rfl) (zlw_3 (i := 92) rfl) rfl rfl
theorem zmx_8_12 : zmpe 8 (274, 0, 802, 721) = true := zmpe_0 rfl rfl (zlw_3 (i := 135) rfl) (zlw_3 (i := 136) rfl) (zlw_3 (i := 137) rfl) rfl rfl
theorem zmx_8_13 : zmpe 8 (302, 0, 1402, 729) = true := zmpe_0 rfl rfl (zlw_3 (i := 143) rfl) (zlw_3 (i := 144) rfl) (zlw_3 (i := 145) rfl) rfl rfl
theorem zmx_8_14 : zmpe 8 (84, 0, 801, 741) = true := zmpe_0 rfl rfl (zlw_3 (i := 155) rfl) (zlw_3 (i := 156) rfl) (zlw_3 (i := 157) rfl) rfl rfl
theorem zmx_8_15 : zmpe 8 (308, 0, 627, 749) = true := zmpe_0 rfl rfl (zlw_3 (i := 163) rfl) (zlw_3 (i := 164) rfl) (zlw_3 (i := 165) rfl) rfl rfl
theorem zmx_8_16 : zmpe 8 (311, 0, 628, 753) = true := zmpe_0 rfl rfl (zlw_3 (i := 167) rfl) (zlw_3 (i := 168) rfl) (zlw_3 (i := 169) rfl) rfl rfl
theorem zmx_8_17 : zmpe 8 (314, 0, 630, 757) = true := zmpe_0 rfl rfl (zlw_3 (i := 171) rfl) (zlw_3 (i := 172) rfl) (zlw_3 (i := 173) rfl) rfl rfl
theorem zmx_8_18 : zmpe 8 (317, 0, 629, 761) = true := zmpe_0 rfl rfl (zlw_3 (i := 175) rfl) (zlw_3 (i := 176) rfl) (zlw_3 (i := 177) rfl) rfl rfl
theorem zmx_8_19 : zmpe 8 (65, 0, 1001, 774) = true := zmpe_0 rfl rfl (zlw_3 (i := 188) rfl) (zlw_3 (i := 189) rfl) (zlw_3 (i := 190) rfl) rfl rfl
theorem zmx_8_20 : zmpe 8 (87, 0, 1638, 993) = true := zmpe_0 rfl rfl (zlw_4 (i := 167) rfl) (zlw_4 (i := 169) rfl) (zlw_0 (i := 31) rfl) rfl rfl
theorem zmx_8_21 : zmpe 8 (154, 0, 602, 1013) = true := zmpe_0 rfl rfl (zlw_4 (i := 187) rfl) (zlw_2 (i := 188) rfl) (zlw_2 (i := 189) rfl) rfl rfl
theorem zmx_8_22 : zmpe 8 (109, 0, 1206, 1014) = true := zmpe_0 rfl rfl (zlw_4 (i := 188) rfl) (zlw_2 (i := 192) rfl) (zlw_2 (i := 193) rfl) rfl rfl
theorem zmx_8_23 : zmpe 8 (118, 0, 1207, 1015) = true := zmpe_0 rfl rfl (zlw_4 (i := 189) rfl) (zlw_4 (i := 190) rfl) (zlw_4 (i := 191) rfl) rfl rfl
theorem zmx_8_24 : zmpe 8 (140, 1, 1640, 1049) = true := zmpe_1 rfl rfl (zlw_4 (i := 223) rfl) (zlw_4 (i := 224) rfl) rfl
theorem zmx_8_25 : zmpe 8 (163, 1, 1639, 1068) = true := zmpe_1 rfl rfl (zlw_5 (i := 2) rfl) (zlw_5 (i := 3) rfl) rfl
theorem zmx_8_26 : zmpe 8 (166, 0, 605, 1079) = true := zmpe_0 rfl rfl (zlw_5 (i := 13) rfl) (zlw_3 (i := 35) rfl) (zlw_3 (i := 36) rfl) rfl rfl
theorem zmx_8_27 : zmpe 8 (175, 0, 603, 1088) = true := zmpe_0 rfl rfl (zlw_5 (i := 22) rfl) (zlw_2 (i := 214) rfl) (zlw_2 (i := 215) rfl) rfl rfl
theorem zmx_8_28 : zmpe 8 (190, 0, 626, 1089) = true := zmpe_0 rfl rfl (zlw_5 (i := 23) rfl) (zlw_5 (i := 24) rfl) (zlw_5 (i := 25) rfl) rfl rfl
theorem zmx_8_29 : zmpe 8 (201, 0, 1204, 1109) = true := zmpe_0 rfl rfl (zlw_5 (i := 43) rfl) (zlw_2 (i := 206) rfl) (zlw_2 (i := 207) rfl) rfl rfl
theorem zmx_8_30 : zmpe 8 (204, 0, 1205, 1110) = true := zmpe_0 rfl rfl (zlw_5 (i := 44) rfl) (zlw_2 (i := 202) rfl) (zlw_2 (i := 203) rfl) rfl rfl
theorem zmx_8_31 : zmpe 8 (219, 1, 1641, 1142) = true := zmpe_1 rfl rfl (zlw_5 (i := 76) rfl) (zlw_5 (i := 77) rfl) rfl
theorem zmx_8_32 : zmpe 8 (222, 0, 1618, 1146) = true := zmpe_0 rfl rfl (zlw_5 (i := 80) rfl) (zlw_5 (i := 82) rfl) (zlw_0 (i := 32) rfl) rfl rfl
theorem zmx_8_33 : zmpe 8 (226, 0, 609, 1150) = true := zmpe_0 rfl rfl (zlw_5 (i := 84) rfl) (zlw_5 (i := 85) rfl) (zlw_5 (i := 86) rfl) rfl rfl
theorem zmx_8_34 : zmpe 8 (234, 0, 620, 1175) = true := zmpe_0 rfl rfl (zlw_5 (i := 109) rfl) (zlw_2 (i := 218) rfl) (zlw_2 (i := 219) rfl) rfl rfl
theorem zmx_8_35 : zmpe 8 (257, 0, 625, 1207) = true := zmpe_0 rfl rfl (zlw_5 (i := 141) rfl) (zlw_5 (i := 142) rfl) (zlw_5 (i := 143) rfl) rfl rfl
theorem zmx_8_36 : zmpe 8 (262, 0, 1209, 1226) = true := zmpe_0 rfl rfl (zlw_5 (i := 160) rfl) (zlw_5 (i := 161) rfl) (zlw_5 (i := 162) rfl) rfl rfl
theorem zmx_8_37 : zmpe 8 (265, 0, 1211, 1239) = true := zmpe_0 rfl rfl (zlw_5 (i := 173) rfl) (zlw_3 (i := 96) rfl) (zlw_3 (i := 97) rfl) rfl rfl
theorem zmx_8_38 : zmpe 8 (292, 0, 403, 1255) = true := zmpe_0 rfl rfl (zlw_5 (i := 189) rfl) (zlw_5 (i := 190) rfl) (zlw_5 (i := 191) rfl) rfl rfl
theorem zmx_8_39 : zmpe 8 (298, 0, 1401, 1269) = true := zmpe_0 rfl rfl (zlw_5 (i := 203) rfl) (zlw_5 (i := 204) rfl) (zlw_5 (i := 205) rfl) rfl rfl
theorem zmq_8 : ∀ e ∈ zmp 8, zmpe 8 e = true := List.forall_mem_cons.mpr ⟨zmx_8_0, List.forall_mem_cons.mpr ⟨zmx_8_1, List.forall_mem_cons.mpr ⟨zmx_8_2, List.forall_mem_cons.mpr ⟨zmx_8_3, List.forall_mem_cons.mpr ⟨zmx_8_4, List.forall_mem_cons.mpr ⟨zmx_8_5, List.forall_mem_cons.mpr ⟨zmx_8_6, List.forall_mem_cons.mpr ⟨zmx_8_7, List.forall_mem_cons.mpr ⟨zmx_8_8, List.forall_mem_cons.mpr ⟨zmx_8_9, List.forall_mem_cons.mpr ⟨zmx_8_10, List.forall_mem_cons.mpr ⟨zmx_8_11, List.forall_mem_cons.mpr ⟨zmx_8_12, List.forall_mem_cons.mpr ⟨zmx_8_13, List.forall_mem_cons.mpr ⟨zmx_8_14, List.forall_mem_cons.mpr ⟨zmx_8_15, List.forall_mem_cons.mpr ⟨zmx_8_16, List.forall_mem_cons.mpr ⟨zmx_8_17, List.forall_mem_cons.mpr ⟨zmx_8_18, List.forall_mem_cons.mpr ⟨zmx_8_19, List.forall_mem_cons.mpr ⟨zmx_8_20, List.forall_mem_cons.mpr ⟨zmx_8_21, List.forall_mem_cons.mpr ⟨zmx_8_22, List.forall_mem_cons.mpr ⟨zmx_8_23, List.forall_mem_cons.mpr ⟨zmx_8_24, List.forall_mem_cons.mpr ⟨zmx_8_25, List.forall_mem_cons.mpr ⟨zmx_8_26, List.forall_mem_cons.mpr ⟨zmx_8_27, List.forall_mem_cons.mpr ⟨zmx_8_28, List.forall_mem_cons.mpr ⟨zmx_8_29, List.forall_mem_cons.mpr ⟨zmx_8_30, List.forall_mem_cons.mpr ⟨zmx_8_31, List.forall_mem_cons.mpr ⟨zmx_8_32, List.forall_mem_cons.mpr ⟨zmx_8_33, List.forall_mem_cons.mpr ⟨zmx_8_34, List.forall_mem_cons.mpr ⟨zmx_8_35, List.forall_mem_cons.mpr ⟨zmx_8_36, List.forall_mem_cons.mpr ⟨zmx_8_37, List.forall_mem_cons.mpr ⟨zmx_8_38, List.forall_mem_cons.mpr ⟨zmx_8_39, (fun _ h => nomatch h)⟩⟩⟩⟩⟩⟩⟩⟩⟩⟩⟩⟩⟩⟩⟩⟩⟩⟩⟩⟩⟩⟩⟩⟩⟩⟩⟩⟩⟩⟩⟩⟩⟩⟩⟩⟩⟩⟩⟩⟩
theorem zmx_9_0 : zmpe 9 (7, 4, 0, 1296) = true := by decide +kernel
theorem zmx_9_1 : zmpe 9 (42, 1, 1806, 1353) = true := zmpe_1 rfl rfl (zlw_6 (i := 47) rfl) (zlw_6 (i := 48) rfl) rfl
theorem zmx_9_2 : zmpe 9 (282, 0, 1861, 1376) = true := zmpe_0 rfl rfl (zlw_6 (i := 70) rfl) (zlw_6 (i := 72) rfl) (zlw_0 (i := 37) rfl) rfl rfl
theorem zmx_9_3 : zmpe 9 (178, 0, 1845, 1380) = true := zmpe_0 rfl rfl (zlw_6 (i := 74) rfl) (zlw_6 (i := 76) rfl) (zlw_0 (i := 38) rfl) rfl rfl
theorem zmx_9_4 : zmpe 9 (172, 0, 1844, 1384) = true := zmpe_0 rfl rfl (zlw_6 (i := 78) rfl) (zlw_6 (i := 80) rfl) (zlw_0 (i := 39) rfl) rfl rfl
theorem zmx_9_5 : zmpe 9 (213, 0, 1846, 1388) = true := zmpe_0 rfl rfl (zlw_6 (i := 82) rfl) (zlw_6 (i := 84) rfl) (zlw_0 (i := 40) rfl) rfl rfl
theorem zmx_9_6 : zmpe 9 (279, 0, 1860, 1392) = true := zmpe_0 rfl rfl (zlw_6 (i := 86) rfl) (zlw_6 (i := 88) rfl) (zlw_0 (i := 41) rfl) rfl rfl
theorem zmx_9_7 : zmpe 9 (195, 0, 1847, 1397) = true := zmpe_0 rfl rfl (zlw_6 (i := 91) rfl) (zlw_6 (i := 93) rfl) (zlw_0 (i := 42) rfl) rfl rfl
theorem zmx_9_8 : zmpe 9 (181, 6, 0, 1401) = true := by decide +kernel
theorem zmx_9_9 : zmpe 9 (186, 7, 0, 1402) = true := by decide +kernel
theorem zmx_9_10 : zmpe 9 (245, 0, 1853, 1403) = true := zmpe_0 rfl rfl (zlw_6 (i := 97) rfl) (zlw_6 (i := 99) rfl) (zlw_0 (i := 43) rfl) rfl rfl
theorem zmx_9_11 : zmpe 9 (77, 0, 1809, 1407) = true := zmpe_0 rfl rfl (zlw_6 (i := 101) rfl) (zlw_6 (i := 103) rfl) (zlw_0 (i := 44) rfl) rfl rfl
theorem zmx_9_12 : zmpe 9 (50, 1, 1810, 1411) = true := zmpe_1 rfl rfl (zlw_6 (i := 105) rfl) (zlw_6 (i := 106) rfl) rfl
theorem zmx_9_13 : zmpe 9 (222, 0, 1852, 1414) = true := zmpe_0 rfl rfl (zlw_6 (i := 108) rfl) (zlw_6 (i := 110) rfl) (zlw_0 (i := 45) rfl) rfl rfl
theorem zmx_9_14 : zmpe 9 (216, 0, 1851, 1418) = true := zmpe_0 rfl rfl (zlw_6 (i := 112) rfl) (zlw_6 (i := 114) rfl) (zlw_0 (i := 46) rfl) rfl rfl
theorem zmx_9_15 : zmpe 9 (54, 0, 1811, 1430) = true := zmpe_0 rfl rfl (zlw_6 (i := 124) rfl) (zlw_6 (i := 126) rfl) (zlw_0 (i := 47) rfl) rfl rfl
theorem zmx_9_16 : zmpe 9 (219, 0, 1850, 1434) = true := zmpe_0 rfl rfl (zlw_6 (i := 128) rfl) (zlw_6 (i := 130) rfl) (zlw_0 (i := 48) rfl) rfl rfl
theorem zmx_9_17 : zmpe 9 (190, 0, 1849, 1438) = true := zmpe_0 rfl rfl (zlw_6 (i := 132) rfl) (zlw_6 (i := 134) rfl) (zlw_0 (i := 49) rfl) rfl rfl
theorem zmx_9_18 : zmpe 9 (225, 0, 1848, 1442) = true := zmpe_0 rfl rfl (zlw_6 (i := 136) rfl) (zlw_6 (i := 138) rfl) (zlw_0 (i := 50) rfl) rfl rfl
theorem zmx_9_19 : zmpe 9 (251, 0, 1854, 1447) = true := zmpe_0 rfl rfl (zlw_6 (i := 141) rfl) (zlw_6 (i := 143) rfl) (zlw_0 (i := 51) rfl) rfl rfl
theorem zmx_9_20 : zmpe 9 (256, 0, 1855, 1452) = true := zmpe_0 rfl rfl (zlw_6 (i := 146) rfl) (zlw_6 (i := 148) rfl) (zlw_0 (i := 52) rfl) rfl rfl
theorem zmx_9_21 : zmpe 9 (261, 0, 1856, 1458) = true := zmpe_0 rfl rfl (zlw_6 (i := 152) rfl) (zlw_6 (i := 154) rfl) (zlw_0 (i := 53) rfl) rfl rfl
theorem zmx_9_22 : zmpe 9 (270, 0, 1859, 1465) = true := zmpe_0 rfl rfl (zlw_6 (i := 159) rfl) (zlw_6 (i := 161) rfl) (zlw_0 (i := 54) rfl) rfl rfl
theorem zmx_9_23 : zmpe 9 (273, 1, 1857, 1476) = true := zmpe_1 rfl rfl (zlw_6 (i := 170) rfl) (zlw_6 (i := 171) rfl) rfl
theorem zmx_9_24 : zmpe 9 (276, 1, 1858, 1479) = true := zmpe_1 rfl rfl (zlw_6 (i := 173) rfl) (zlw_6 (i := 174) rfl) rfl
theorem zmx_9_25 : zmpe 9 (285, 0, 1801, 1482) = true := zmpe_0 rfl rfl (zlw_6 (i := 176) rfl) (zlw_6 (i := 178) rfl) (zlw_0 (i := 55) rfl) rfl rfl
theorem zmx_9_26 : zmpe 9 (292, 0, 1863, 1490) = true := zmpe_0 rfl rfl (zlw_6 (i := 184) rfl) (zlw_6 (i := 186) rfl) (zlw_0 (i := 56) rfl) rfl rfl
theorem zmx_9_27 : zmpe 9 (289, 1, 1802, 1494) = true := zmpe_1 rfl rfl (zlw_6 (i := 188) rfl) (zlw_6 (i := 189) rfl) rfl
theorem zmx_9_28 : zmpe 9 (153, 0, 1812, 1497) = true := zmpe_0 rfl rfl (zlw_6 (i := 191) rfl) (zlw_6 (i := 193) rfl) (zlw_0 (i := 57) rfl) rfl rfl
theorem zmx_9_29 : zmpe 9 (296, 0, 1835, 1502) = true := zmpe_0 rfl rfl (zlw_6 (i := 196) rfl) (zlw_6 (i := 198) rfl) (zlw_0 (i := 58) rfl) rfl rfl
theorem zmx_9_30 : zmpe 9 (146, 0, 1813, 1506) = true := zmpe_0 rfl rfl (zlw_6 (i := 200) rfl) (zlw_6 (i := 202) rfl) (zlw_0 (i := 59) rfl) rfl rfl
theorem zmx_9_31 : zmpe 9 (150, 0, 1834, 1510) = true := zmpe_0 rfl rfl (zlw_6 (i := 204) rfl) (zlw_6 (i := 206) rfl) (zlw_0 (i := 60) rfl) rfl rfl
theorem zmx_9_32 : zmpe 9 (133, 0, 1829, 1514) = true := zmpe_0 rfl rfl (zlw_6 (i := 208) rfl) (zlw_6 (i := 210) rfl) (zlw_0 (i := 61) rfl) rfl rfl
theorem zmx_9_33 : zmpe 9 (111, 0, 1823, 1518) = true := zmpe_0 rfl rfl (zlw_6 (i := 212) rfl) (zlw_6 (i := 214) rfl) (zlw_0 (i := 62) rfl) rfl rfl
theorem zmx_9_34 : zmpe 9 (91, 0, 1814, 1522) = true := zmpe_0 rfl rfl (zlw_6 (i := 216) rfl) (zlw_6 (i := 218) rfl) (zlw_0 (i := 63) rfl) rfl rfl
theorem zmx_9_35 : zmpe 9 (95, 0, 1819, 1526) = true := zmpe_0 rfl rfl (zlw_6 (i := 220) rfl) (zlw_6 (i := 222) rfl) (zlw_0 (i := 64) rfl) rfl rfl
theorem zmx_9_36 : zmpe 9 (99, 0, 1821, 1530) = true := zmpe_0 rfl rfl (zlw_6 (i := 224) rfl) (zlw_6 (i := 226) rfl) (zlw_0 (i := 65) rfl) rfl rfl
theorem zmx_9_37 : zmpe 9 (85, 0, 1820, 1534) = true := zmpe_0 rfl rfl (zlw_6 (i := 228) rfl) (zlw_6 (i := 230) rfl) (zlw_0 (i := 66) rfl) rfl rfl
theorem zmx_9_38 : zmpe 9 (81, 1, 1803, 1538) = true := zmpe_1 rfl rfl (zlw_6 (i := 232) rfl) (zlw_6 (i := 233) rfl) rfl
theorem zmx_9_39 : zmpe 9 (88, 0, 1818, 1541) = true := zmpe_0 rfl rfl (zlw_6 (i := 235) rfl) (zlw_6 (i := 237) rfl) (zlw_0 (i := 67) rfl) rfl rfl
theorem zmx_9_40 : zmpe 9 (70, 0, 1817, 1545) = true := zmpe_0 rfl rfl (zlw_6 (i := 239) rfl) (zlw_7 (i := 1) rfl) (zlw_0 (i := 68) rfl) rfl rfl
theorem zmx_9_41 : zmpe 9 (57, 1, 2401, 1549) = true := zmpe_1 rfl rfl (zlw_7 (i := 3) rfl) (zlw_2 (i := 226) rfl) rfl
theorem zmx_9_42 : zmpe 9 (62, 0, 1816, 1550) = true := zmpe_0 rfl rfl (zlw_7 (i := 4) rfl) (zlw_7 (i := 6) rfl) (zlw_0 (i := 69) rfl) rfl rfl
theorem zmx_9_43 : zmpe 9 (66, 0, 1815, 1554) = true := zmpe_0 rfl rfl (zlw_7 (i := 8) rfl) (zlw_7 (i := 10) rfl) (zlw_0 (i := 70) rfl) rfl rfl
theorem zmx_9_44 : zmpe 9 (114, 0, 1822, 1558) = true := zmpe_0 rfl rfl (zlw_7 (i := 12) rfl) (zlw_7 (i := 14) rfl) (zlw_0 (i := 71) rfl) rfl rfl
theorem zmx_9_45 : zmpe 9 (117, 0, 1825, 1562) = true := zmpe_0 rfl rfl (zlw_7 (i := 16) rfl) (zlw_7 (i := 18) rfl) (zlw_0 (i := 72) rfl) rfl rfl
theorem zmx_9_46 : zmpe 9 (120, 0, 1824, 1566) = true := zmpe_0 rfl rfl (zlw_7 (i := 20) rfl) (zlw_7 (i := 22) rfl) (zlw_0 (i := 73) rfl) rfl rfl
theorem zmx_9_47 : zmpe 9 (102, 1, 1804, 1570) = true := zmpe_1 rfl rfl (zlw_7 (i := 24) rfl) (zlw_7 (i := 25) rfl) rfl
theorem zmx_9_48 : zmpe 9 (105, 0, 1826, 1573) = true := zmpe_0 rfl rfl (zlw_7 (i := 27) rfl) (zlw_7 (i := 29) rfl) (zlw_0 (i := 74) rfl) rfl rfl
theorem zmx_9_49 : zmpe 9 (124, 0, 1827, 1577) = true := zmpe_0 rfl rfl (zlw_7 (i := 31) rfl) (zlw_7 (i := 33) rfl) (zlw_0 (i := 75) rfl) rfl rfl
theorem zmx_9_50 : zmpe 9 (127, 0, 1828, 1581) = true := zmpe_0 rfl rfl (zlw_7 (i := 35) rfl) (zlw_7 (i := 37) rfl) (zlw_0 (i := 76) rfl) rfl rfl
theorem zmx_9_51 : zmpe 9 (108, 1, 2402, 1585) = true := zmpe_1 rfl rfl (zlw_7 (i := 39) rfl) (zlw_3 (i := 193) rfl) rfl
theorem zmx_9_52 : zmpe 9 (136, 0, 1831, 1586) = true := zmpe_0 rfl rfl (zlw_7 (i := 40) rfl) (zlw_7 (i := 42) rfl) (zlw_0 (i := 77) rfl) rfl rfl
theorem zmx_9_53 : zmpe 9 (130, 0, 1830, 1590) = true := zmpe_0 rfl rfl (zlw_7 (i := 44) rfl) (zlw_7 (i := 46) rfl) (zlw_0 (i := 78) rfl) rfl rfl
theorem zmx_9_54 : zmpe 9 (139, 0, 1832, 1594) = true := zmpe_0 rfl rfl (zlw_7 (i := 48) rfl) (zlw_7 (i := 50) rfl) (zlw_0 (i := 79) rfl) rfl rfl
theorem zmx_9_55 : zmpe 9 (142, 0, 1833, 1598) = true := zmpe_0 rfl rfl (zlw_7 (i := 52) rfl) (zlw_7 (i := 54) rfl) (zlw_0 (i := 80) rfl) rfl rfl
theorem zmx_9_56 : zmpe 9 (308, 0, 1865, 1606) = true := zmpe_0 rfl rfl (zlw_7 (i := 60) rfl) (zlw_7 (i := 62) rfl) (zlw_0 (i := 81) rfl) rfl rfl
theorem zmx_9_57 : zmpe 9 (299, 0, 1837, 1610) = true := zmpe_0 rfl rfl (zlw_7 (i := 64) rfl) (zlw_7 (i := 66) rfl) (zlw_0 (i := 82) rfl) rfl rfl
theorem zmx_9_58 : zmpe 9 (156, 0, 1836, 1614) = true := zmpe_0 rfl rfl (zlw_7 (i := 68) rfl) (zlw_7 (i := 70) rfl) (zlw_0 (i := 83) rfl) rfl rfl
theorem zmx_9_59 : zmpe 9 (302, 0, 1840, 1618) = true := zmpe_0 rfl rfl (zlw_7 (i := 72) rfl) (zlw_7 (i := 74) rfl) (zlw_0 (i := 84) rfl) rfl rfl
theorem zmx_9_60 : zmpe 9 (160, 0, 1839, 1622) = true := zmpe_0 rfl rfl (zlw_7 (i := 76) rfl) (zlw_7 (i := 78) rfl) (zlw_0 (i := 85) rfl) rfl rfl
theorem zmx_9_61 : zmpe 9 (305, 0, 1838, 1627) = true := zmpe_0 rfl rfl (zlw_7 (i := 81) rfl) (zlw_7 (i := 83) rfl) (zlw_0 (i := 86) rfl) rfl rfl
theorem zmx_9_62 : zmpe 9 (312, 0, 1871, 1651) = true := zmpe_0 rfl rfl (zlw_7 (i := 105) rfl) (zlw_7 (i := 107) rfl) (zlw_0 (i := 87) rfl) rfl rfl
theorem zmx_9_63 : zmpe 9 (315, 0, 1876, 1671) = true := zmpe_0 rfl rfl (zlw_7 (i := 125) rfl) (zlw_7 (i := 127) rfl) (zlw_0 (i := 88) rfl) rfl rfl
theorem zmx_9_64 : zmpe 9 (318, 0, 1879, 1683) = true := zmpe_0 rfl rfl (zlw_7 (i := 137) rfl) (zlw_7 (i := 139) rfl) (zlw_0 (i := 89) rfl) rfl rfl
theorem zmx_9_65 : zmpe 9 (321, 0, 1885, 1707) = true := zmpe_0 rfl rfl (zlw_7 (i := 161) rfl) (zlw_7 (i := 163) rfl) (zlw_0 (i := 90) rfl) rfl rfl
theorem zmx_9_66 : zmpe 9 (324, 0, 1886, 1711) = true := zmpe_0 rfl rfl (zlw_7 (i := 165) rfl) (zlw_7 (i := 167) rfl) (zlw_0 (i := 91) rfl) rfl rfl
theorem zmx_9_67 : zmpe 9 (327, 0, 1887, 1715) = true := zmpe_0 rfl rfl (zlw_7 (i := 169) rfl) (zlw_7 (i := 171) rfl) (zlw_0 (i := 92) rfl) rfl rfl
theorem zmx_9_68 : zmpe 9 (330, 0, 1889, 1723) = true := zmpe_0 rfl rfl (zlw_7 (i := 177) rfl) (zlw_7 (i := 179) rfl) (zlw_0 (i := 93) rfl) rfl rfl
theorem zmx_9_69 : zmpe 9 (333, 0, 1891, 1731) = true := zmpe_0 rfl rfl (zlw_7 (i := 185) rfl) (zlw_7 (i := 187) rfl) (zlw_0 (i := 94) rfl) rfl rfl
theorem zmx_9_70 : zmpe 9 (336, 0, 1894, 1743) = true := zmpe_0 rfl rfl (zlw_7 (i := 197) rfl) (zlw_7 (i := 199) rfl) (zlw_0 (i := 95) rfl) rfl rfl
theorem zmx_9_71 : zmpe 9 (340, 0, 1897, 1755) = true := zmpe_0 rfl rfl (zlw_7 (i := 209) rfl) (zlw_7 (i := 211) rfl) (zlw_0 (i := 96) rfl) rfl rfl
theorem zmx_9_72 : zmpe 9 (346, 0, 1900, 1763) = true := zmpe_0 rfl rfl (zlw_7 (i := 217) rfl) (zlw_7 (i := 219) rfl) (zlw_0 (i := 97) rfl) rfl rfl
theorem zmx_9_73 : zmpe 9 (343, 0, 1899, 1767) = true := zmpe_0 rfl rfl (zlw_7 (i := 221) rfl) (zlw_7 (i := 223) rfl) (zlw_0 (i := 98) rfl) rfl rfl
theorem zmx_9_74 : zmpe 9 (359, 0, 1905, 1775) = true := zmpe_0 rfl rfl (zlw_7 (i := 229) rfl) (zlw_7 (i := 231) rfl) (zlw_0 (i := 99) rfl) rfl rfl
theorem zmx_9_75 : zmpe 9 (352, 0, 1904, 1779) = true := zmpe_0 rfl rfl (zlw_7 (i := 233) rfl) (zlw_7 (i := 235) rfl) (zlw_0 (i := 100) rfl) rfl rfl
theorem zmx_9_76 : zmpe 9 (355, 0, 1902, 1783) = true := zmpe_0 rfl rfl (zlw_7 (i := 237) rfl) (zlw_7 (i := 239) rfl) (zlw_0 (i := 101) rfl) rfl rfl
theorem zmx_9_77 : zmpe 9 (349, 0, 1903, 1787) = true := zmpe_0 rfl rfl (zlw_8 (i := 1) rfl) (zlw_8 (i := 3) rfl) (zlw_0 (i := 102) rfl) rfl rfl
theorem zmx_9_78 : zmpe 9 (370, 0, 1907, 1796) = true := zmpe_0 rfl rfl (zlw_8 (i := 10) rfl) (zlw_8 (i := 12) rfl) (zlw_0 (i := 103) rfl) rfl rfl
theorem zmx_9_79 : zmpe 9 (390, 0, 1909, 1801) = true := zmpe_0 rfl rfl (zlw_8 (i := 15) rfl) (zlw_8 (i := 17) rfl) (zlw_0 (i := 104) rfl) rfl rfl
theorem zmx_9_80 : zmpe 9 (365, 0, 1908, 1812) = true := zmpe_0 rfl rfl (zlw_8 (i := 26) rfl) (zlw_8 (i := 28) rfl) (zlw_0 (i := 105) rfl) rfl rfl
theorem zmq_9 : ∀ e ∈ zmp 9, zmpe 9 e = true := List.forall_mem_cons.mpr ⟨zmx_9_0, List.forall_mem_cons.mpr ⟨zmx_9_1, List.forall_mem_cons.mpr ⟨zmx_9_2, List.forall_mem_cons.mpr ⟨zmx_9_3, List.forall_mem_cons.mpr ⟨zmx_9_4, List.forall_mem_cons.mpr ⟨zmx_9_5, List.forall_mem_cons.mpr ⟨zmx_9_6, List.forall_mem_cons.mpr ⟨zmx_9_7, List.forall_mem_cons.mpr ⟨zmx_9_8, List.forall_mem_cons.mpr ⟨zmx_9_9, List.forall_mem_cons.mpr ⟨zmx_9_10, List.forall_mem_cons.mpr ⟨zmx_9_11, List.forall_mem_cons.mpr ⟨zmx_9_12, List.forall_mem_cons.mpr ⟨zmx_9_13, List.forall_mem_cons.mpr ⟨zmx_9_14, List.forall_mem_cons.mpr ⟨zmx_9_15, List.forall_mem_cons.mpr ⟨zmx_9_16, List.forall_mem_cons.mpr ⟨zmx_9_17, List.forall_mem_cons.mpr ⟨zmx_9_18, List.forall_mem_cons.mpr ⟨zmx_9_19, List.forall_mem_cons.mpr ⟨zmx_9_20, List.forall_mem_cons.mpr ⟨zmx_9_21, List.forall_mem_cons.mpr ⟨zmx_9_22, List.forall_mem_cons.mpr ⟨zmx_9_23, List.forall_mem_cons.mpr ⟨zmx_9_24, List.forall_mem_cons.mpr ⟨zmx_9_25, List.forall_mem_cons.mpr ⟨zmx_9_26, List.forall_mem_cons.mpr ⟨zmx_9_27, List.forall_mem_cons.mpr ⟨zmx_9_28, List.forall_mem_cons.mpr ⟨zmx_9_29, List.forall_mem_cons.mpr ⟨zmx_9_30, List.forall_mem_cons.mpr ⟨zmx_9_31, List.forall_mem_cons.mpr ⟨zmx_9_32, List.forall_mem_cons.mpr ⟨zmx_9_33, List.forall_mem_cons.mpr ⟨zmx_9_34, List.forall_mem_cons.mpr ⟨zmx_9_35, List.forall_mem_cons.mpr ⟨zmx_9_36, List.forall_mem_cons.mpr ⟨zmx_9_37, List.forall_mem_cons.mpr ⟨zmx_9_38, List.forall_mem_cons.mpr ⟨zmx_9_39, List.forall_mem_cons.mpr ⟨zmx_9_40, List.forall_mem_cons.mpr ⟨zmx_9_41, List.forall_mem_cons.mpr ⟨zmx_9_42, List.forall_mem_cons.mpr ⟨zmx_9_43, List.forall_mem_cons.mpr ⟨zmx_9_44, List.forall_mem_cons.mpr ⟨zmx_9_45, List.forall_mem_cons.mpr ⟨zmx_9_46, List.forall_mem_cons.mpr ⟨zmx_9_47, List.forall_mem_cons.mpr ⟨zmx_9_48, List.forall_mem_cons.mpr ⟨zmx_9_49, List.forall_mem_cons.mpr ⟨zmx_9_50, List.forall_mem_cons.mpr ⟨zmx_9_51, List.forall_mem_cons.mpr ⟨zmx_9_52, List.forall_mem_cons.mpr ⟨zmx_9_53, List.forall_mem_cons.mpr ⟨zmx_9_54, List.forall_mem_cons.mpr ⟨zmx_9_55, List.forall_mem_cons.mpr ⟨zmx_9_56, List.forall_mem_cons.mpr ⟨zmx_9_57, List.forall_mem_cons.mpr ⟨zmx_9_58, List.forall_mem_cons.mpr ⟨zmx_9_59, List.forall_mem_cons.mpr ⟨zmx_9_60, List.forall_mem_cons.mpr ⟨zmx_9_61, List.forall_mem_cons.mpr ⟨zmx_9_62, List.forall_mem_cons.mpr ⟨zmx_9_63, List.forall_mem_cons.mpr ⟨zmx_9_64, List.forall_mem_cons.mpr ⟨zmx_9_65, List.forall_mem_cons.mpr ⟨zmx_9_66, List.forall_mem_cons.mpr ⟨zmx_9_67, List.forall_mem_cons.mpr ⟨zmx_9_68, List.forall_mem_cons.mpr ⟨zmx_9_69, List.forall_mem_cons.mpr ⟨zmx_9_70, List.forall_mem_cons.mpr ⟨zmx_9_71, List.forall_mem_cons.mpr ⟨zmx_9_72, List.forall_mem_cons.mpr ⟨zmx_9_73, List.forall_mem_cons.mpr ⟨zmx_9_74, List.forall_mem_cons.mpr ⟨zmx_9_75, List.forall_mem_cons.mpr ⟨zmx_9_76, List.forall_mem_cons.mpr ⟨zmx_9_77, List.forall_mem_cons.mpr ⟨zmx_9_78, List.forall_mem_cons.mpr ⟨zmx_9_79, List.forall_mem_cons.mpr ⟨zmx_9_80, (fun _ h => nomatch h)⟩⟩⟩⟩⟩⟩⟩⟩⟩⟩⟩⟩⟩⟩⟩⟩⟩⟩⟩⟩⟩⟩⟩⟩⟩⟩⟩⟩⟩⟩⟩⟩⟩⟩⟩⟩⟩⟩⟩⟩⟩⟩⟩⟩⟩⟩⟩⟩⟩⟩⟩⟩⟩⟩⟩⟩⟩⟩⟩⟩⟩⟩⟩⟩⟩⟩⟩⟩⟩⟩⟩⟩⟩⟩⟩⟩⟩⟩⟩⟩⟩
theorem zmx_10_0 : zmpe 10 (95, 2, 1600, 134) = true := zmpe_2 rfl rfl (zlw_1 (i := 28) rfl) (zlw_1 (i := 29) rfl) rfl rfl rfl rfl
theorem zmx_10_1 : zmpe 10 (99, 0, 1601, 471) = true := zmpe_0 rfl rfl (zlw_2 (i := 125) rfl) (zlw_2 (i := 126) rfl) (zlw_2 (i := 127) rfl) rfl rfl
theorem zmx_10_2 : zmpe 10 (104, 0, 1603, 479) = true := zmpe_0 rfl rfl (zlw_2 (i := 133) rfl) (zlw_2 (i := 134) rfl) (zlw_2 (i := 135) rfl) rfl rfl
theorem zmx_10_3 : zmpe 10 (115, 0, 1605, 483) = true := zmpe_0 rfl rfl (zlw_2 (i := 137) rfl) (zlw_2 (i := 138) rfl) (zlw_2 (i := 139) rfl) rfl rfl
theorem zmx_10_4 : zmpe 10 (164, 0, 1621, 487) = true := zmpe_0 rfl rfl (zlw_2 (i := 141) rfl) (zlw_2 (i := 142) rfl) (zlw_2 (i := 143) rfl) rfl rfl
theorem zmx_10_5 : zmpe 10 (174, 0, 1624, 491) = true := zmpe_0 rfl rfl (zlw_2 (i := 145) rfl) (zlw_2 (i := 146) rfl) (zlw_2 (i := 147) rfl) rfl rfl
theorem zmx_10_6 : zmpe 10 (190, 0, 1630, 672) = true := zmpe_0 rfl rfl (zlw_3 (i := 86) rfl) (zlw_3 (i := 87) rfl) (zlw_3 (i := 88) rfl) rfl rfl
theorem zmx_10_7 : zmpe 10 (203, 0, 1634, 725) = true := zmpe_0 rfl rfl (zlw_3 (i := 139) rfl) (zlw_3 (i := 140) rfl) (zlw_3 (i := 141) rfl) rfl rfl
theorem zmx_10_8 : zmpe 10 (207, 0, 1635, 733) = true := zmpe_0 rfl rfl (zlw_3 (i := 147) rfl) (zlw_3 (i := 148) rfl) (zlw_3 (i := 149) rfl) rfl rfl
theorem zmx_10_9 : zmpe 10 (211, 0, 1636, 737) = true := zmpe_0 rfl rfl (zlw_3 (i := 151) rfl) (zlw_3 (i := 152) rfl) (zlw_3 (i := 153) rfl) rfl rfl
theorem zmx_10_10 : zmpe 10 (216, 0, 1637, 745) = true := zmpe_0 rfl rfl (zlw_3 (i := 159) rfl) (zlw_3 (i := 160) rfl) (zlw_3 (i := 161) rfl) rfl rfl
theorem zmx_10_11 : zmpe 10 (109, 1, 2000, 765) = true := zmpe_1 rfl rfl (zlw_3 (i := 179) rfl) (zlw_3 (i := 180) rfl) rfl
theorem zmx_10_12 : zmpe 10 (7, 0, 1604, 770) = true := zmpe_0 rfl rfl (zlw_3 (i := 184) rfl) (zlw_3 (i := 185) rfl) (zlw_3 (i := 186) rfl) rfl rfl
theorem zmx_10_13 : zmpe 10 (119, 1, 2001, 984) = true := zmpe_1 rfl rfl (zlw_4 (i := 158) rfl) (zlw_4 (i := 159) rfl) rfl
theorem zmx_10_14 : zmpe 10 (17, 0, 1606, 989) = true := zmpe_0 rfl rfl (zlw_4 (i := 163) rfl) (zlw_4 (i := 164) rfl) (zlw_4 (i := 165) rfl) rfl rfl
theorem zmx_10_15 : zmpe 10 (123, 1, 2002, 1035) = true := zmpe_1 rfl rfl (zlw_4 (i := 209) rfl) (zlw_4 (i := 210) rfl) rfl
theorem zmx_10_16 : zmpe 10 (25, 0, 1607, 1038) = true := zmpe_0 rfl rfl (zlw_4 (i := 212) rfl) (zlw_4 (i := 213) rfl) (zlw_4 (i := 214) rfl) rfl rfl
theorem zmx_10_17 : zmpe 10 (126, 1, 2003, 1042) = true := zmpe_1 rfl rfl (zlw_4 (i := 216) rfl) (zlw_4 (i := 217) rfl) rfl
theorem zmx_10_18 : zmpe 10 (28, 0, 1608, 1045) = true := zmpe_0 rfl rfl (zlw_4 (i := 219) rfl) (zlw_4 (i := 220) rfl) (zlw_4 (i := 221) rfl) rfl rfl
theorem zmx_10_19 : zmpe 10 (129, 1, 2004, 1053) = true := zmpe_1 rfl rfl (zlw_4 (i := 227) rfl) (zlw_4 (i := 228) rfl) rfl
theorem zmx_10_20 : zmpe 10 (31, 0, 1609, 1056) = true := zmpe_0 rfl rfl (zlw_4 (i := 230) rfl) (zlw_4 (i := 231) rfl) (zlw_4 (i := 232) rfl) rfl rfl
theorem zmx_10_21 : zmpe 10 (132, 1, 2005, 1061) = true := zmpe_1 rfl rfl (zlw_4 (i := 235) rfl) (zlw_4 (i := 236) rfl) rfl
theorem zmx_10_22 : zmpe 10 (34, 0, 1610, 1064) = true := zmpe_0 rfl rfl (zlw_4 (i := 238) rfl) (zlw_4 (i := 239) rfl) (zlw_5 (i := 0) rfl) rfl rfl
theorem zmx_10_23 : zmpe 10 (136, 1, 2006, 1072) = true := zmpe_1 rfl rfl (zlw_5 (i := 6) rfl) (zlw_5 (i := 7) rfl) rfl
theorem zmx_10_24 : zmpe 10 (38, 0, 1611, 1075) = true := zmpe_0 rfl rfl (zlw_5 (i := 9) rfl) (zlw_5 (i := 10) rfl) (zlw_5 (i := 11) rfl) rfl rfl
theorem zmx_10_25 : zmpe 10 (139, 1, 2007, 1080) = true := zmpe_1 rfl rfl (zlw_5 (i := 14) rfl) (zlw_5 (i := 15) rfl) rfl
theorem zmx_10_26 : zmpe 10 (41, 0, 1612, 1083) = true := zmpe_0 rfl rfl (zlw_5 (i := 17) rfl) (zlw_5 (i := 18) rfl) (zlw_5 (i := 19) rfl) rfl rfl
theorem zmx_10_27 : zmpe 10 (142, 1, 2008, 1094) = true := zmpe_1 rfl rfl (zlw_5 (i := 28) rfl) (zlw_5 (i := 29) rfl) rfl
theorem zmx_10_28 : zmpe 10 (44, 0, 1613, 1097) = true := zmpe_0 rfl rfl (zlw_5 (i := 31) rfl) (zlw_5 (i := 32) rfl) (zlw_5 (i := 33) rfl) rfl rfl
theorem zmx_10_29 : zmpe 10 (145, 1, 2009, 1102) = true := zmpe_1 rfl rfl (zlw_5 (i := 36) rfl) (zlw_5 (i := 37) rfl) rfl
theorem zmx_10_30 : zmpe 10 (47, 0, 1614, 1105) = true := zmpe_0 rfl rfl (zlw_5 (i := 39) rfl) (zlw_5 (i := 40) rfl) (zlw_5 (i := 41) rfl) rfl rfl
theorem zmx_10_31 : zmpe 10 (149, 1, 2010, 1111) = true := zmpe_1 rfl rfl (zlw_5 (i := 45) rfl) (zlw_5 (i := 46) rfl) rfl
theorem zmx_10_32 : zmpe 10 (51, 0, 1615, 1115) = true := zmpe_0 rfl rfl (zlw_5 (i := 49) rfl) (zlw_5 (i := 50) rfl) (zlw_5 (i := 51) rfl) rfl rfl
theorem zmx_10_33 : zmpe 10 (152, 1, 2011, 1135) = true := zmpe_1 rfl rfl (zlw_5 (i := 69) rfl) (zlw_5 (i := 70) rfl) rfl
theorem zmx_10_34 : zmpe 10 (56, 0, 1616, 1138) = true := zmpe_0 rfl rfl (zlw_5 (i := 72) rfl) (zlw_5 (i := 73) rfl) (zlw_5 (i := 74) rfl) rfl rfl
theorem zmx_10_35 : zmpe 10 (155, 1, 2012, 1160) = true := zmpe_1 rfl rfl (zlw_5 (i := 94) rfl) (zlw_5 (i := 95) rfl) rfl
theorem zmx_10_36 : zmpe 10 (59, 0, 1617, 1163) = true := zmpe_0 rfl rfl (zlw_5 (i := 97) rfl) (zlw_5 (i := 98) rfl) (zlw_5 (i := 99) rfl) rfl rfl
theorem zmx_10_37 : zmpe 10 (158, 1, 2013, 1167) = true := zmpe_1 rfl rfl (zlw_5 (i := 101) rfl) (zlw_5 (i := 102) rfl) rfl
theorem zmx_10_38 : zmpe 10 (62, 0, 1619, 1170) = true := zmpe_0 rfl rfl (zlw_5 (i := 104) rfl) (zlw_5 (i := 105) rfl) (zlw_5 (i := 106) rfl) rfl rfl
theorem zmx_10_39 : zmpe 10 (161, 1, 2014, 1176) = true := zmpe_1 rfl rfl (zlw_5 (i := 110) rfl) (zlw_5 (i := 111) rfl) rfl
theorem zmx_10_40 : zmpe 10 (65, 0, 1620, 1179) = true := zmpe_0 rfl rfl (zlw_5 (i := 113) rfl) (zlw_5 (i := 114) rfl) (zlw_5 (i := 115) rfl) rfl rfl
theorem zmx_10_41 : zmpe 10 (168, 1, 2015, 1186) = true := zmpe_1 rfl rfl (zlw_5 (i := 120) rfl) (zlw_5 (i := 121) rfl) rfl
theorem zmx_10_42 : zmpe 10 (68, 0, 1622, 1189) = true := zmpe_0 rfl rfl (zlw_5 (i := 123) rfl) (zlw_5 (i := 124) rfl) (zlw_5 (i := 125) rfl) rfl rfl
theorem zmx_10_43 : zmpe 10 (171, 1, 2016, 1193) = true := zmpe_1 rfl rfl (zlw_5 (i := 127) rfl) (zlw_5 (i := 128) rfl) rfl
theorem zmx_10_44 : zmpe 10 (71, 0, 1623, 1196) = true := zmpe_0 rfl rfl (zlw_5 (i := 130) rfl) (zlw_5 (i := 131) rfl) (zlw_5 (i := 132) rfl) rfl rfl
theorem zmx_10_45 : zmpe 10 (178, 1, 2017, 1200) = true := zmpe_1 rfl rfl (zlw_5 (i := 134) rfl) (zlw_5 (i := 135) rfl) rfl
theorem zmx_10_46 : zmpe 10 (74, 0, 1626, 1203) = true := zmpe_0 rfl rfl (zlw_5 (i := 137) rfl) (zlw_5 (i := 138) rfl) (zlw_5 (i := 139) rfl) rfl rfl
theorem zmx_10_47 : zmpe 10 (181, 1, 2018, 1211) = true := zmpe_1 rfl rfl (zlw_5 (i := 145) rfl) (zlw_5 (i := 146) rfl) rfl
theorem zmx_10_48 : zmpe 10 (77, 0, 1627, 1214) = true := zmpe_0 rfl rfl (zlw_5 (i := 148) rfl) (zlw_5 (i := 149) rfl) (zlw_5 (i := 150) rfl) rfl rfl
theorem zmx_10_49 : zmpe 10 (184, 1, 2019, 1219) = true := zmpe_1 rfl rfl (zlw_5 (i := 153) rfl) (zlw_5 (i := 154) rfl) rfl
theorem zmx_10_50 : zmpe 10 (80, 0, 1628, 1222) = true := zmpe_0 rfl rfl (zlw_5 (i := 156) rfl) (zlw_5 (i := 157) rfl) (zlw_5 (i := 158) rfl) rfl rfl
theorem zmx_10_51 : zmpe 10 (187, 1, 2020, 1232) = true := zmpe_1 rfl rfl (zlw_5 (i := 166) rfl) (zlw_5 (i := 167) rfl) rfl
theorem zmx_10_52 : zmpe 10 (83, 0, 1629, 1235) = true := zmpe_0 rfl rfl (zlw_5 (i := 169) rfl) (zlw_5 (i := 170) rfl) (zlw_5 (i := 171) rfl) rfl rfl
theorem zmx_10_53 : zmpe 10 (194, 1, 2021, 1240) = true := zmpe_1 rfl rfl (zlw_5 (i := 174) rfl) (zlw_5 (i := 175) rfl) rfl
theorem zmx_10_54 : zmpe 10 (86, 0, 1631, 1243) = true := zmpe_0 rfl rfl (zlw_5 (i := 177) rfl) (zlw_5 (i := 178) rfl) (zlw_5 (i := 179) rfl) rfl rfl
theorem zmx_10_55 : zmpe 10 (197, 1, 2022, 1247) = true := zmpe_1 rfl rfl (zlw_5 (i := 181) rfl) (zlw_5 (i := 182) rfl) rfl
theorem zmx_10_56 : zmpe 10 (89, 0, 1632, 1250) = true := zmpe_0 rfl rfl (zlw_5 (i := 184) rfl) (zlw_5 (i := 185) rfl) (zlw_5 (i := 186) rfl) rfl rfl
theorem zmx_10_57 : zmpe 10 (200, 1, 2023, 1262) = true := zmpe_1 rfl rfl (zlw_5 (i := 196) rfl) (zlw_5 (i := 197) rfl) rfl
theorem zmx_10_58 : zmpe 10 (92, 0, 1633, 1265) = true := zmpe_0 rfl rfl (zlw_5 (i := 199) rfl) (zlw_5 (i := 200) rfl) (zlw_5 (i := 201) rfl) rfl rfl
theorem zmx_10_59 : zmpe 10 (98, 2, 1805, 1293) = true := zmpe_2 rfl rfl (zlw_5 (i := 227) rfl) (zlw_5 (i := 228) rfl) rfl rfl rfl rfl
theorem zmx_10_60 : zmpe 10 (210, 0, 1807, 1349) = true := zmpe_0 rfl rfl (zlw_6 (i := 43) rfl) (zlw_6 (i := 44) rfl) (zlw_6 (i := 45) rfl) rfl rfl
theorem zmx_10_61 : zmpe 10 (215, 0, 1808, 1356) = true := zmpe_0 rfl rfl (zlw_6 (i := 50) rfl) (zlw_6 (i := 51) rfl) (zlw_6 (i := 52) rfl) rfl rfl
theorem zmx_10_62 : zmpe 10 (103, 0, 1841, 1360) = true := zmpe_0 rfl rfl (zlw_6 (i := 54) rfl) (zlw_6 (i := 55) rfl) (zlw_6 (i := 56) rfl) rfl rfl
theorem zmx_10_63 : zmpe 10 (108, 0, 1842, 1364) = true := zmpe_0 rfl rfl (zlw_6 (i := 58) rfl) (zlw_6 (i := 59) rfl) (zlw_6 (i := 60) rfl) rfl rfl
theorem zmx_10_64 : zmpe 10 (118, 0, 1843, 1368) = true := zmpe_0 rfl rfl (zlw_6 (i := 62) rfl) (zlw_6 (i := 63) rfl) (zlw_6 (i := 64) rfl) rfl rfl
theorem zmx_10_65 : zmpe 10 (114, 0, 1862, 1372) = true := zmpe_0 rfl rfl (zlw_6 (i := 66) rfl) (zlw_6 (i := 67) rfl) (zlw_6 (i := 68) rfl) rfl rfl
theorem zmx_10_66 : zmpe 10 (151, 0, 1864, 1486) = true := zmpe_0 rfl rfl (zlw_6 (i := 180) rfl) (zlw_6 (i := 181) rfl) (zlw_6 (i := 182) rfl) rfl rfl
theorem zmx_10_67 : zmpe 10 (154, 0, 1866, 1602) = true := zmpe_0 rfl rfl (zlw_7 (i := 56) rfl) (zlw_7 (i := 57) rfl) (zlw_7 (i := 58) rfl) rfl rfl
theorem zmx_10_68 : zmpe 10 (157, 0, 1867, 1631) = true := zmpe_0 rfl rfl (zlw_7 (i := 85) rfl) (zlw_7 (i := 86) rfl) (zlw_7 (i := 87) rfl) rfl rfl
theorem zmx_10_69 : zmpe 10 (160, 0, 1868, 1635) = true := zmpe_0 rfl rfl (zlw_7 (i := 89) rfl) (zlw_7 (i := 90) rfl) (zlw_7 (i := 91) rfl) rfl rfl
theorem zmx_10_70 : zmpe 10 (163, 0, 1869, 1639) = true := zmpe_0 rfl rfl (zlw_7 (i := 93) rfl) (zlw_7 (i := 94) rfl) (zlw_7 (i := 95) rfl) rfl rfl
theorem zmx_10_71 : zmpe 10 (167, 0, 1870, 1643) = true := zmpe_0 rfl rfl (zlw_7 (i := 97) rfl) (zlw_7 (i := 98) rfl) (zlw_7 (i := 99) rfl) rfl rfl
theorem zmx_10_72 : zmpe 10 (122, 0, 1872, 1647) = true := zmpe_0 rfl rfl (zlw_7 (i := 101) rfl) (zlw_7 (i := 102) rfl) (zlw_7 (i := 103) rfl) rfl rfl
theorem zmx_10_73 : zmpe 10 (125, 0, 1873, 1655) = true := zmpe_0 rfl rfl (zlw_7 (i := 109) rfl) (zlw_7 (i := 110) rfl) (zlw_7 (i := 111) rfl) rfl rfl
theorem zmx_10_74 : zmpe 10 (128, 0, 1874, 1659) = true := zmpe_0 rfl rfl (zlw_7 (i := 113) rfl) (zlw_7 (i := 114) rfl) (zlw_7 (i := 115) rfl) rfl rfl
theorem zmx_10_75 : zmpe 10 (131, 0, 1875, 1663) = true := zmpe_0 rfl rfl (zlw_7 (i := 117) rfl) (zlw_7 (i := 118) rfl) (zlw_7 (i := 119) rfl) rfl rfl
theorem zmx_10_76 : zmpe 10 (135, 0, 1877, 1667) = true := zmpe_0 rfl rfl (zlw_7 (i := 121) rfl) (zlw_7 (i := 122) rfl) (zlw_7 (i := 123) rfl) rfl rfl
theorem zmx_10_77 : zmpe 10 (138, 0, 1878, 1675) = true := zmpe_0 rfl rfl (zlw_7 (i := 129) rfl) (zlw_7 (i := 130) rfl) (zlw_7 (i := 131) rfl) rfl rfl
theorem zmx_10_78 : zmpe 10 (141, 0, 1880, 1679) = true := zmpe_0 rfl rfl (zlw_7 (i := 133) rfl) (zlw_7 (i := 134) rfl) (zlw_7 (i := 135) rfl) rfl rfl
theorem zmx_10_79 : zmpe 10 (144, 0, 1881, 1687) = true := zmpe_0 rfl rfl (zlw_7 (i := 141) rfl) (zlw_7 (i := 142) rfl) (zlw_7 (i := 143) rfl) rfl rfl
theorem zmx_10_80 : zmpe 10 (148, 0, 1882, 1691) = true := zmpe_0 rfl rfl (zlw_7 (i := 145) rfl) (zlw_7 (i := 146) rfl) (zlw_7 (i := 147) rfl) rfl rfl
theorem zmx_10_81 : zmpe 10 (196, 0, 1883, 1695) = true := zmpe_0 rfl rfl (zlw_7 (i := 149) rfl) (zlw_7 (i := 150) rfl) (zlw_7 (i := 151) rfl) rfl rfl
theorem zmx_10_82 : zmpe 10 (199, 0, 1884, 1699) = true := zmpe_0 rfl rfl (zlw_7 (i := 153) rfl) (zlw_7 (i := 154) rfl) (zlw_7 (i := 155) rfl) rfl rfl
theorem zmx_10_83 : zmpe 10 (219, 0, 1888, 1703) = true := zmpe_0 rfl rfl (zlw_7 (i := 157) rfl) (zlw_7 (i := 158) rfl) (zlw_7 (i := 159) rfl) rfl rfl
theorem zmx_10_84 : zmpe 10 (170, 0, 1890, 1719) = true := zmpe_0 rfl rfl (zlw_7 (i := 173) rfl) (zlw_7 (i := 174) rfl) (zlw_7 (i := 175) rfl) rfl rfl
theorem zmx_10_85 : zmpe 10 (173, 0, 1892, 1727) = true := zmpe_0 rfl rfl (zlw_7 (i := 181) rfl) (zlw_7 (i := 182) rfl) (zlw_7 (i := 183) rfl) rfl rfl
theorem zmx_10_86 : zmpe 10 (177, 0, 1893, 1735) = true := zmpe_0 rfl rfl (zlw_7 (i := 189) rfl) (zlw_7 (i := 190) rfl) (zlw_7 (i := 191) rfl) rfl rfl
theorem zmx_10_87 : zmpe 10 (180, 0, 1895, 1739) = true := zmpe_0 rfl rfl (zlw_7 (i := 193) rfl) (zlw_7 (i := 194) rfl) (zlw_7 (i := 195) rfl) rfl rfl
theorem zmx_10_88 : zmpe 10 (183, 0, 1896, 1747) = true := zmpe_0 rfl rfl (zlw_7 (i := 201) rfl) (zlw_7 (i := 202) rfl) (zlw_7 (i := 203) rfl) rfl rfl
theorem zmx_10_89 : zmpe 10 (186, 0, 1898, 1751) = true := zmpe_0 rfl rfl (zlw_7 (i := 205) rfl) (zlw_7 (i := 206) rfl) (zlw_7 (i := 207) rfl) rfl rfl
theorem zmx_10_90 : zmpe 10 (189, 0, 1901, 1759) = true := zmpe_0 rfl rfl (zlw_7 (i := 213) rfl) (zlw_7 (i := 214) rfl) (zlw_7 (i := 215) rfl) rfl rfl
theorem zmx_10_91 : zmpe 10 (193, 0, 1906, 1771) = true := zmpe_0 rfl rfl (zlw_7 (i := 225) rfl) (zlw_7 (i := 226) rfl) (zlw_7 (i := 227) rfl) rfl rfl
theorem zmx_10_92 : zmpe 10 (202, 0, 1910, 1791) = true := zmpe_0 rfl rfl (zlw_8 (i := 5) rfl) (zlw_8 (i := 6) rfl) (zlw_8 (i := 7) rfl) rfl rfl
theorem zmx_10_93 : zmpe 10 (206, 0, 1911, 1816) = true := zmpe_0 rfl rfl (zlw_8 (i := 30) rfl) (zlw_8 (i := 31) rfl) (zlw_8 (i := 32) rfl) rfl rfl
theorem zmq_10 : ∀ e ∈ zmp 10, zmpe 10 e = true := List.forall_mem_cons.mpr ⟨zmx_10_0, List.forall_mem_cons.mpr ⟨zmx_10_1, List.forall_mem_cons.mpr ⟨zmx_10_2, List.forall_mem_cons.mpr ⟨zmx_10_3, List.forall_mem_cons.mpr ⟨zmx_10_4, List.forall_mem_cons.mpr ⟨zmx_10_5, List.forall_mem_cons.mpr ⟨zmx_10_6, List.forall_mem_cons.mpr ⟨zmx_10_7, List.forall_mem_cons.mpr ⟨zmx_10_8, List.forall_mem_cons.mpr ⟨zmx_10_9, List.forall_mem_cons.mpr ⟨zmx_10_10, List.forall_mem_cons.mpr ⟨zmx_10_11, List.forall_mem_cons.mpr ⟨zmx_10_12, List.forall_mem_cons.mpr ⟨zmx_10_13, List.forall_mem_cons.mpr ⟨zmx_10_14, List.forall_mem_cons.mpr ⟨zmx_10_15, List.forall_mem_cons.mpr ⟨zmx_10_16, List.forall_mem_cons.mpr ⟨zmx_10_17, List.forall_mem_cons.mpr ⟨zmx_10_18, List.forall_mem_cons.mpr ⟨zmx_10_19, List.forall_mem_cons.mpr ⟨zmx_10_20, List.forall_mem_cons.mpr ⟨zmx_10_21, List.forall_mem_cons.mpr ⟨zmx_10_22, List.forall_mem_cons.mpr ⟨zmx_10_23, List.forall_mem_cons.mpr ⟨zmx_10_24, List.forall_mem_cons.mpr ⟨zmx_10_25, List.forall_mem_cons.mpr ⟨zmx_10_26, List.forall_mem_cons.mpr ⟨zmx_10_27, List.forall_mem_cons.mpr ⟨zmx_10_28, List.forall_mem_cons.mpr ⟨zmx_10_29, List.forall_mem_cons.mpr ⟨zmx_10_30, List.forall_mem_cons.mpr ⟨zmx_10_31, List.forall_mem_cons.mpr ⟨zmx_10_32, List.forall_mem_cons.mpr ⟨zmx_10_33, List.forall_mem_cons.mpr ⟨zmx_10_34, List.forall_mem_cons.mpr ⟨zmx_10_35, List.forall_mem_cons.mpr ⟨zmx_10_36, List.forall_mem_cons.mpr ⟨zmx_10_37, List.forall_mem_cons.mpr ⟨zmx_10_38, List.forall_mem_cons.mpr ⟨zmx_10_39, List.forall_mem_cons.mpr ⟨zmx_10_40, List.forall_mem_cons.mpr ⟨zmx_10_41, List.forall_mem_cons.mpr ⟨zmx_10_42, List.forall_mem_cons.mpr ⟨zmx_10_43, List.forall_mem_cons.mpr ⟨zmx_10_44, List.forall_mem_cons.mpr ⟨zmx_10_45, List.forall_mem_cons.mpr ⟨zmx_10_46, List.forall_mem_cons.mpr ⟨zmx_10_47, List.forall_mem_cons.mpr ⟨zmx_10_48, List.forall_mem_cons.mpr ⟨zmx_10_49, List.forall_mem_cons.mpr ⟨zmx_10_50, List.forall_mem_cons.mpr ⟨zmx_10_51, List.forall_mem_cons.mpr ⟨zmx_10_52, List.forall_mem_cons.mpr ⟨zmx_10_53, List.forall_mem_cons.mpr ⟨zmx_10_54, List.forall_mem_cons.mpr ⟨zmx_10_55, List.forall_mem_cons.mpr ⟨zmx_10_56, List.forall_mem_cons.mpr ⟨zmx_10_57, List.forall_mem_cons.mpr ⟨zmx_10_58, List.forall_mem_cons.mpr ⟨zmx_10_59, List.forall_mem_cons.mpr ⟨zmx_10_60, List.forall_mem_cons.mpr ⟨zmx_10_61, List.forall_mem_cons.mpr ⟨zmx_10_62, List.forall_mem_cons.mpr ⟨zmx_10_63, List.forall_mem_cons.mpr ⟨zmx_10_64, List.forall_mem_cons.mpr ⟨zmx_10_65, List.forall_mem_cons.mpr ⟨zmx_10_66, List.forall_mem_cons.mpr ⟨zmx_10_67, List.forall_mem_cons.mpr ⟨zmx_10_68, List.forall_mem_cons.mpr ⟨zmx_10_69, List.forall_mem_cons.mpr ⟨zmx_10_70, List.forall_mem_cons.mpr ⟨zmx_10_71, List.forall_mem_cons.mpr ⟨zmx_10_72, List.forall_mem_cons.mpr ⟨zmx_10_73, List.forall_mem_cons.mpr ⟨zmx_10_74, List.forall_mem_cons.mpr ⟨zmx_10_75, List.forall_mem_cons.mpr ⟨zmx_10_76, List.forall_mem_cons.mpr ⟨zmx_10_77, List.forall_mem_cons.mpr ⟨zmx_10_78, List.forall_mem_cons.mpr ⟨zmx_10_79, List.forall_mem_cons.mpr ⟨zmx_10_80, List.forall_mem_cons.mpr ⟨zmx_10_81, List.forall_mem_cons.mpr ⟨zmx_10_82, List.forall_mem_cons.mpr ⟨zmx_10_83, List.forall_mem_cons.mpr ⟨zmx_10_84, List.forall_mem_cons.mpr ⟨zmx_10_85, List.forall_mem_cons.mpr ⟨zmx_10_86, List.forall_mem_cons.mpr ⟨zmx_10_87, List.forall_mem_cons.mpr ⟨zmx_10_88, List.forall_mem_cons.mpr ⟨zmx_10_89, List.forall_mem_cons.mpr ⟨zmx_10_90, List.forall_mem_cons.mpr ⟨zmx_10_91, List.forall_mem_cons.mpr ⟨zmx_10_92, List.forall_mem_cons.mpr ⟨zmx_10_93, (fun _ h => nomatch h)⟩⟩⟩⟩⟩⟩⟩⟩⟩⟩⟩⟩⟩⟩⟩⟩⟩⟩⟩⟩⟩⟩⟩⟩⟩⟩⟩⟩⟩⟩⟩⟩⟩⟩⟩⟩⟩⟩⟩⟩⟩⟩⟩⟩⟩⟩⟩⟩⟩⟩⟩⟩⟩⟩⟩⟩⟩⟩⟩⟩⟩⟩⟩⟩⟩⟩⟩⟩⟩⟩⟩⟩⟩⟩⟩⟩⟩⟩⟩⟩⟩⟩⟩⟩⟩⟩⟩⟩⟩⟩⟩⟩⟩⟩
theorem zmq_11 : ∀ e ∈ zmp 11, zmpe 11 e = true := (fun _ h => nomatch h)
theorem zmq_12 : ∀ e ∈ zmp 12, zmpe 12 e = true := (fun _ h => nomatch h)
theorem zmp_ok {c : Nat} {e : Nat × Nat × Nat × Nat} (h : e ∈ zmp c) : zmpe c e = true := by
  match c, h with
  | 0, h => exact zmq_0 e h
  | 1, h => exact zmq_1 e h
  | 2, h => exact zmq_2 e h
  | 3, h => exact zmq_3 e h
  | 4, h => exact zmq_4 e h
  | 5, h => exact zmq_5 e h
  | 6, h => exact zmq_6 e h
  | 7, h => exact zmq_7 e h
  | 8, h => exact zmq_8 e h
  | 9, h => exact zmq_9 e h
  | 10, h => exact zmq_10 e h
  | 11, h => exact zmq_11 e h
  | 12, h => exact zmq_12 e h
  | k + 13, h => rw [zmp_ge (by omega)] at h; cases h
theorem zent_lt {j : Nat} {q : zMt} (h : zent j = some q) : j / 200 < 13 := by
  apply Nat.lt_of_not_le
  intro hc
  unfold zent at h
  rw [zmc_ge hc] at h
  cases h
theorem zplj_ex {j : Nat} {q : zMt} (h : zent j = some q) : ∃ pl, zplj j = some pl := by
  have hlen : (zpl (j / 200)).length = (zmc (j / 200)).length := by
    have h1 := zent_lt h
    exact of_decide_eq_true (List.all_eq_true.mp (show (List.range 13).all (fun c => decide ((zpl c).length = (zmc c).length)) = true by decide +kernel) (j / 200) (List.mem_range.mpr h1))
  unfold zent at h
  unfold zplj
  have h2 := (List.getElem?_eq_some_iff.mp h).1
  exact ⟨_, List.getElem?_eq_getElem (by rw [hlen]; exact h2)⟩
theorem zmt_ok {j : Nat} {q : zMt} (h : zent j = some q) (hj : j ≠ 2024) (hj2 : j < 2400) : ∃ pl, zplj j = some pl ∧ zmok (j / 200) (j % 200) q pl = true := by
  obtain ⟨pl, hp⟩ := zplj_ex h
  refine ⟨pl, hp, ?_⟩
  have hc : j / 200 < 12 := by omega
  have hi : j / 200 = 10 → j % 200 ≠ 24 := by omega
  unfold zent at h
  unfold zplj at hp
  generalize j / 200 = c at h hp hc hi ⊢
  generalize j % 200 = i at h hp hi ⊢
  match c, hc, h, hp, hi with
  | 0, _, h, hp, _ => exact zmt_0 h hp
  | 1, _, h, hp, _ => exact zmt_1 h hp
  | 2, _, h, hp, _ => exact zmt_2 h hp
  | 3, _, h, hp, _ => exact zmt_3 h hp
  | 4, _, h, hp, _ => exact zmt_4 h hp
  | 5, _, h, hp, _ => exact zmt_5 h hp
  | 6, _, h, hp, _ => exact zmt_6 h hp
  | 7, _, h, hp, _ => exact zmt_7 h hp
  | 8, _, h, hp, _ => exact zmt_8 h hp
  | 9, _, h, hp, _ => exact zmt_9 h hp
  | 10, _, h, hp, hi => exact zmt_10 h hp (hi rfl)
  | 11, _, h, hp, _ => exact zmt_11 h hp
  | k + 12, hc, _, _, _ => exact absurd hc (by omega)
theorem zj_eq (j : Nat) : 200 * (j / 200) + j % 200 = j := Nat.div_add_mod j 200
theorem zmt_all {j : Nat} {q : zMt} (h : zent j = some q) (hj : j ≠ 2024) (hj2 : j < 2400) : q.1.cls = zcn (j / 200) ∧ plainName q.1.cls = true ∧ (q.1.cls ≠ "java/lang/invoke/MethodHandle" ∧ q.1.cls ≠ "java/lang/invoke/VarHandle") ∧ zcw q ∈ zWs ∧ Cond.initialized q.1.cls ∈ zWs ∧ (parseMethodDescriptor q.1.desc).map (fun d => d.parameters.length) = some (zna j) ∧ q.2.2.1 ≤ 20 ∧ (zini j = true → q.1.name = "<init>") := by
  obtain ⟨pl, -, hk⟩ := zmt_ok h hj hj2
  unfold zmok at hk
  rw [zj_eq] at hk
  simp only [Bool.and_eq_true, decide_eq_true_eq] at hk
  obtain ⟨⟨⟨⟨⟨⟨⟨⟨⟨⟨⟨a1, a2⟩, a3⟩, a4⟩, a5⟩, a6⟩, a7⟩, a8⟩, a9⟩, a10⟩, a11⟩, a12⟩ := hk
  refine ⟨a1, a2, ⟨a3, a4⟩, ?_, List.mem_filter.mpr ⟨List.mem_of_getElem? a6, rfl⟩, a7, Nat.le_of_ble_eq_true a11, fun hi => ?_⟩
  · unfold zcw
    by_cases hh : q.2.2.2.2.1 = []
    · rw [if_pos hh] at a5 ⊢
      exact List.mem_filter.mpr ⟨List.mem_of_getElem? (of_decide_eq_true a5), rfl⟩
    · rw [if_neg hh] at a5 ⊢
      exact List.mem_filter.mpr ⟨List.mem_of_getElem? (of_decide_eq_true a5), rfl⟩
  · rw [hi, if_pos rfl] at a10
    exact of_decide_eq_true a10
theorem zin_of {i : Nat} {w : Cond} (h : lw_tbl[i]? = some w) (g : goodWord w = true) : w ∈ zWs := List.mem_filter.mpr ⟨List.mem_of_getElem? h, g⟩
theorem zk0_ok {c idx j pl : Nat} (h : (zmp c).lookup idx = some (0, j, pl)) : ∃ q, zent j = some q ∧ Cond.methodLink (zcn c) idx q.1 ∈ zWs ∧ Cond.instanceMethod q.1 ∈ zWs ∧ Cond.selects q.1.cls q.1 q.1 ∈ zWs ∧ q.2.2.2.2.1 = [] ∧ j < 2000 := by
  have h1 := zmp_ok (zlk_of (β := Unit) h)
  unfold zmpe at h1
  cases hq : zent j with
  | none => simp only [hq] at h1; cases h1
  | some q =>
    obtain ⟨p2, hp⟩ := zplj_ex hq
    simp only [hq, hp, Bool.and_eq_true, decide_eq_true_eq] at h1
    obtain ⟨⟨⟨⟨a1, a2⟩, a3⟩, a4⟩, a5⟩ := h1
    have := zblt a5
    exact ⟨q, rfl, zin_of a1 rfl, zin_of a2 rfl, zin_of a3 rfl, List.isEmpty_iff.mp a4, by omega⟩
theorem zk1_ok {c idx j pl : Nat} (h : (zmp c).lookup idx = some (1, j, pl)) : ∃ q, zent j = some q ∧ Cond.methodLink (zcn c) idx q.1 ∈ zWs ∧ Cond.static q.1 ∈ zWs ∧ j ≠ 2024 := by
  have h1 := zmp_ok (zlk_of (β := Unit) h)
  unfold zmpe at h1
  cases hq : zent j with
  | none => simp only [hq] at h1; cases h1
  | some q =>
    obtain ⟨p2, hp⟩ := zplj_ex hq
    simp only [hq, hp, Bool.and_eq_true, decide_eq_true_eq, bne_iff_ne] at h1
    obtain ⟨⟨a1, a2⟩, a3⟩ := h1
    exact ⟨q, rfl, zin_of a1 rfl, zin_of a2 rfl, a3⟩
theorem zk2_ok {c idx j pl : Nat} (h : (zmp c).lookup idx = some (2, j, pl)) : ∃ q, zent j = some q ∧ Cond.methodLink (zcn c) idx q.1 ∈ zWs ∧ Cond.instanceMethod q.1 ∈ zWs ∧ zini j = true ∧ q.2.2.2.2.1 = [] ∧ q.2.2.2.1 = none ∧ j < 2000 := by
  have h1 := zmp_ok (zlk_of (β := Unit) h)
  unfold zmpe at h1
  cases hq : zent j with
  | none => simp only [hq] at h1; cases h1
  | some q =>
    obtain ⟨p2, hp⟩ := zplj_ex hq
    simp only [hq, hp, Bool.and_eq_true, decide_eq_true_eq] at h1
    obtain ⟨⟨⟨⟨⟨a1, a2⟩, a3⟩, a4⟩, a6⟩, a5⟩ := h1
    have := zblt a5
    exact ⟨q, rfl, zin_of a1 rfl, zin_of a2 rfl, a3, List.isEmpty_iff.mp a4, a6, by omega⟩
theorem zk3_ok {c idx j pl : Nat} (h : (zmp c).lookup idx = some (3, j, pl)) : ∃ q, zent j = some q ∧ Cond.methodLinkNest (zcn c) idx q.1 "ElidedLocks" ∈ zNs ∧ Cond.instanceMethod q.1 ∈ zWs ∧ zini j = true ∧ q.2.2.2.2.1 = [] ∧ q.2.2.2.1 = none ∧ j < 2000 := by
  have h1 := zmp_ok (zlk_of (β := Unit) h)
  unfold zmpe at h1
  cases hq : zent j with
  | none => simp only [hq] at h1; cases h1
  | some q =>
    obtain ⟨p2, hp⟩ := zplj_ex hq
    simp only [hq, hp, Bool.and_eq_true, decide_eq_true_eq] at h1
    obtain ⟨⟨⟨⟨⟨a1, a2⟩, a3⟩, a4⟩, a6⟩, a5⟩ := h1
    have := zblt a5
    exact ⟨q, rfl, a1, zin_of a2 rfl, a3, List.isEmpty_iff.mp a4, a6, by omega⟩
