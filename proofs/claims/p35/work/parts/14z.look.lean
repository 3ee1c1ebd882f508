/-! where a word stands, by the pieces of the tables -/
theorem zap_l {a b : List Cond} {i : Nat} {w : Cond} (h : a[i]? = some w) : (a ++ b)[i]? = some w := by
  rw [List.getElem?_append_left (List.getElem?_eq_some_iff.mp h).1]
  exact h
theorem zap_r {a b : List Cond} {i n : Nat} {w : Cond} (hn : a.length = n) (h : b[i]? = some w) : (a ++ b)[n + i]? = some w := by
  rw [List.getElem?_append_right (by omega), hn, Nat.add_sub_cancel_left]
  exact h
theorem zsz_0 : (k2_sels lw_privs).length = 106 := by decide +kernel
theorem zsz_1 : tables_1_1.length = 240 := by decide +kernel
theorem zsz_2 : tables_1_2.length = 240 := by decide +kernel
theorem zsz_3 : tables_1_3.length = 240 := by decide +kernel
theorem zsz_4 : tables_1_4.length = 240 := by decide +kernel
theorem zsz_5 : tables_1_5.length = 240 := by decide +kernel
theorem zsz_6 : tables_1_6.length = 240 := by decide +kernel
theorem zsz_7 : tables_1_7.length = 240 := by decide +kernel
theorem zsz_8 : tables_1_8.length = 55 := by decide +kernel
theorem zlw_0 {i : Nat} {w : Cond} (h : (k2_sels lw_privs)[i]? = some w) : lw_tbl[i]? = some w := zap_l h
theorem zlw_1 {i : Nat} {w : Cond} (h : tables_1_1[i]? = some w) : lw_tbl[106 + i]? = some w := by
  have e : lw_tbl[106 + i]? = some w := zap_r zsz_0 (zap_l h)
  rw [show 106 + i = 106 + i by omega]
  exact e
theorem zlw_2 {i : Nat} {w : Cond} (h : tables_1_2[i]? = some w) : lw_tbl[346 + i]? = some w := by
  have e : lw_tbl[106 + (240 + i)]? = some w := zap_r zsz_0 (zap_r zsz_1 (zap_l h))
  rw [show 346 + i = 106 + (240 + i) by omega]
  exact e
theorem zlw_3 {i : Nat} {w : Cond} (h : tables_1_3[i]? = some w) : lw_tbl[586 + i]? = some w := by
  have e : lw_tbl[106 + (240 + (240 + i))]? = some w := zap_r zsz_0 (zap_r zsz_1 (zap_r zsz_2 (zap_l h)))
  rw [show 586 + i = 106 + (240 + (240 + i)) by omega]
  exact e
theorem zlw_4 {i : Nat} {w : Cond} (h : tables_1_4[i]? = some w) : lw_tbl[826 + i]? = some w := by
  have e : lw_tbl[106 + (240 + (240 + (240 + i)))]? = some w := zap_r zsz_0 (zap_r zsz_1 (zap_r zsz_2 (zap_r zsz_3 (zap_l h))))
  rw [show 826 + i = 106 + (240 + (240 + (240 + i))) by omega]
  exact e
theorem zlw_5 {i : Nat} {w : Cond} (h : tables_1_5[i]? = some w) : lw_tbl[1066 + i]? = some w := by
  have e : lw_tbl[106 + (240 + (240 + (240 + (240 + i))))]? = some w := zap_r zsz_0 (zap_r zsz_1 (zap_r zsz_2 (zap_r zsz_3 (zap_r zsz_4 (zap_l h)))))
  rw [show 1066 + i = 106 + (240 + (240 + (240 + (240 + i)))) by omega]
  exact e
theorem zlw_6 {i : Nat} {w : Cond} (h : tables_1_6[i]? = some w) : lw_tbl[1306 + i]? = some w := by
  have e : lw_tbl[106 + (240 + (240 + (240 + (240 + (240 + i)))))]? = some w := zap_r zsz_0 (zap_r zsz_1 (zap_r zsz_2 (zap_r zsz_3 (zap_r zsz_4 (zap_r zsz_5 (zap_l h))))))
  rw [show 1306 + i = 106 + (240 + (240 + (240 + (240 + (240 + i))))) by omega]
  exact e
theorem zlw_7 {i : Nat} {w : Cond} (h : tables_1_7[i]? = some w) : lw_tbl[1546 + i]? = some w := by
  have e : lw_tbl[106 + (240 + (240 + (240 + (240 + (240 + (240 + i))))))]? = some w := zap_r zsz_0 (zap_r zsz_1 (zap_r zsz_2 (zap_r zsz_3 (zap_r zsz_4 (zap_r zsz_5 (zap_r zsz_6 (zap_l h)))))))
  rw [show 1546 + i = 106 + (240 + (240 + (240 + (240 + (240 + (240 + i)))))) by omega]
  exact e
theorem zlw_8 {i : Nat} {w : Cond} (h : tables_1_8[i]? = some w) : lw_tbl[1786 + i]? = some w := by
  have e : lw_tbl[106 + (240 + (240 + (240 + (240 + (240 + (240 + (240 + i)))))))]? = some w := zap_r zsz_0 (zap_r zsz_1 (zap_r zsz_2 (zap_r zsz_3 (zap_r zsz_4 (zap_r zsz_5 (zap_r zsz_6 (zap_r zsz_7 (h))))))))
  rw [show 1786 + i = 106 + (240 + (240 + (240 + (240 + (240 + (240 + (240 + i))))))) by omega]
  exact e
theorem zmok_I {c i : Nat} {q : zMt} {pl : Nat × Nat × Nat × Nat} (a1 : q.1.cls = zcn c) (a2 : plainName (zcn c) = true ∧ zcn c ≠ "java/lang/invoke/MethodHandle" ∧ zcn c ≠ "java/lang/invoke/VarHandle")
    (a3 : (q.2.2.2.2.1 = [] ∧ lw_tbl[pl.1]? = some (.code q.1 q.2.1 q.2.2.1 q.2.2.2.1)) ∨ (q.2.2.2.2.1 ≠ [] ∧ lw_tbl[pl.1]? = some (.codeWith q.1 q.2.1 q.2.2.1 q.2.2.2.1 q.2.2.2.2.1)))
    (a4 : lw_tbl[pl.2.2.2]? = some (.initialized q.1.cls)) (a5 : (parseMethodDescriptor q.1.desc).map (fun d => d.parameters.length) = some (zna (200 * c + i)))
    (a6 : lw_tbl[pl.2.1]? = some (.static q.1) ∨ lw_tbl[pl.2.1]? = some (.instanceMethod q.1))
    (a7 : lw_tbl[pl.2.1]? = some (.static q.1) ∨ zini (200 * c + i) = true ∨ lw_tbl[pl.2.2.1]? = some (.selects q.1.cls q.1 q.1))
    (a8 : zini (200 * c + i) = false ∨ q.1.name = "<init>") (a9 : Nat.ble q.2.2.1 20 = true) (a10 : Nat.ble (zna (200 * c + i) + 1) q.2.2.1.succ = true) : zmok c i q pl = true := by
  obtain ⟨b1, b2, b3⟩ := a2
  rw [← a1] at b1 b2 b3
  have d1 : (if q.2.2.2.2.1 = [] then decide (lw_tbl[pl.1]? = some (.code q.1 q.2.1 q.2.2.1 q.2.2.2.1)) else decide (lw_tbl[pl.1]? = some (.codeWith q.1 q.2.1 q.2.2.1 q.2.2.2.1 q.2.2.2.2.1))) = true := by
    rcases a3 with ⟨e1, e2⟩ | ⟨e1, e2⟩
    · rw [if_pos e1]; exact decide_eq_true e2
    · rw [if_neg e1]; exact decide_eq_true e2
  have d2 : (decide (lw_tbl[pl.2.1]? = some (.static q.1)) || decide (lw_tbl[pl.2.1]? = some (.instanceMethod q.1))) = true := by
    rcases a6 with e | e
    · rw [decide_eq_true e]; rfl
    · rw [decide_eq_true e]; exact Bool.or_true _
  have d3 : (decide (lw_tbl[pl.2.1]? = some (.static q.1)) || zini (200 * c + i) || decide (lw_tbl[pl.2.2.1]? = some (.selects q.1.cls q.1 q.1))) = true := by
    rcases a7 with e | e | e
    · rw [decide_eq_true e]; rfl
    · rw [e, Bool.or_true]; rfl
    · rw [decide_eq_true e]; exact Bool.or_true _
  have d4 : (if zini (200 * c + i) then decide (q.1.name = "<init>") else true) = true := by
    rcases a8 with e | e
    · rw [e]; rfl
    · rw [decide_eq_true e]; exact ite_self _
  unfold zmok
  rw [decide_eq_true a1, b1, decide_eq_true b2, decide_eq_true b3, d1, decide_eq_true a4, decide_eq_true a5, d2, d3, d4, a9, a10]
  rfl
