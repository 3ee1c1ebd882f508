/-! what is checked of each method, by places (written by program: fast.py) -/
theorem zpn_0 : plainName (zcn 0) = true ∧ zcn 0 ≠ "java/lang/invoke/MethodHandle" ∧ zcn 0 ≠ "java/lang/invoke/VarHandle" := by decide +kernel
theorem zpn_1 : plainName (zcn 1) = true ∧ zcn 1 ≠ "java/lang/invoke/MethodHandle" ∧ zcn 1 ≠ "java/lang/invoke/VarHandle" := by decide +kernel
theorem zpn_2 : plainName (zcn 2) = true ∧ zcn 2 ≠ "java/lang/invoke/MethodHandle" ∧ zcn 2 ≠ "java/lang/invoke/VarHandle" := by decide +kernel
theorem zpn_3 : plainName (zcn 3) = true ∧ zcn 3 ≠ "java/lang/invoke/MethodHandle" ∧ zcn 3 ≠ "java/lang/invoke/VarHandle" := by decide +kernel
theorem zpn_4 : plainName (zcn 4) = true ∧ zcn 4 ≠ "java/lang/invoke/MethodHandle" ∧ zcn 4 ≠ "java/lang/invoke/VarHandle" := by decide +kernel
theorem zpn_5 : plainName (zcn 5) = true ∧ zcn 5 ≠ "java/lang/invoke/MethodHandle" ∧ zcn 5 ≠ "java/lang/invoke/VarHandle" := by decide +kernel
theorem zpn_6 : plainName (zcn 6) = true ∧ zcn 6 ≠ "java/lang/invoke/MethodHandle" ∧ zcn 6 ≠ "java/lang/invoke/VarHandle" := by decide +kernel
theorem zpn_7 : plainName (zcn 7) = true ∧ zcn 7 ≠ "java/lang/invoke/MethodHandle" ∧ zcn 7 ≠ "java/lang/invoke/VarHandle" := by decide +kernel
theorem zpn_8 : plainName (zcn 8) = true ∧ zcn 8 ≠ "java/lang/invoke/MethodHandle" ∧ zcn 8 ≠ "java/lang/invoke/VarHandle" := by decide +kernel
theorem zpn_9 : plainName (zcn 9) = true ∧ zcn 9 ≠ "java/lang/invoke/MethodHandle" ∧ zcn 9 ≠ "java/lang/invoke/VarHandle" := by decide +kernel
theorem zpn_10 : plainName (zcn 10) = true ∧ zcn 10 ≠ "java/lang/invoke/MethodHandle" ∧ zcn 10 ≠ "java/lang/invoke/VarHandle" := by decide +kernel
theorem zpn_11 : plainName (zcn 11) = true ∧ zcn 11 ≠ "java/lang/invoke/MethodHandle" ∧ zcn 11 ≠ "java/lang/invoke/VarHandle" := by decide +kernel
theorem zpd_0 : (parseMethodDescriptor "()V").map (fun d => d.parameters.length) = some 0 := by decide +kernel
theorem zpd_1 : (parseMethodDescriptor "(LElidedLocks$Guess;)V").map (fun d => d.parameters.length) = some 1 := by decide +kernel
theorem zpd_2 : (parseMethodDescriptor "(III)V").map (fun d => d.parameters.length) = some 3 := by decide +kernel
theorem zpd_3 : (parseMethodDescriptor "(I)Z").map (fun d => d.parameters.length) = some 1 := by decide +kernel
theorem zpd_4 : (parseMethodDescriptor "(I)V").map (fun d => d.parameters.length) = some 1 := by decide +kernel
theorem zpd_5 : (parseMethodDescriptor "()I").map (fun d => d.parameters.length) = some 0 := by decide +kernel
theorem zpd_6 : (parseMethodDescriptor "(LElidedLocks$Lock;)V").map (fun d => d.parameters.length) = some 1 := by decide +kernel
theorem zpd_7 : (parseMethodDescriptor "(LElidedLocks$Log;)V").map (fun d => d.parameters.length) = some 1 := by decide +kernel
theorem zpd_8 : (parseMethodDescriptor "(IIII)V").map (fun d => d.parameters.length) = some 4 := by decide +kernel
theorem zpd_9 : (parseMethodDescriptor "(II)I").map (fun d => d.parameters.length) = some 2 := by decide +kernel
theorem zpd_10 : (parseMethodDescriptor "(LElidedLocks$Machine;)V").map (fun d => d.parameters.length) = some 1 := by decide +kernel
theorem zpd_11 : (parseMethodDescriptor "(I)LElidedLocks$Strand;").map (fun d => d.parameters.length) = some 1 := by decide +kernel
theorem zpd_12 : (parseMethodDescriptor "(I)LElidedLocks$Lock;").map (fun d => d.parameters.length) = some 1 := by decide +kernel
theorem zpd_13 : (parseMethodDescriptor "(I)I").map (fun d => d.parameters.length) = some 1 := by decide +kernel
theorem zpd_14 : (parseMethodDescriptor "(LElidedLocks$Strand;I)I").map (fun d => d.parameters.length) = some 2 := by decide +kernel
theorem zpd_15 : (parseMethodDescriptor "(ILElidedLocks$Strand;)I").map (fun d => d.parameters.length) = some 2 := by decide +kernel
theorem zpd_16 : (parseMethodDescriptor "(ILElidedLocks$Strand;I)I").map (fun d => d.parameters.length) = some 3 := by decide +kernel
theorem zpd_17 : (parseMethodDescriptor "(ILElidedLocks$Strand;I)V").map (fun d => d.parameters.length) = some 3 := by decide +kernel
theorem zpd_18 : (parseMethodDescriptor "(III)I").map (fun d => d.parameters.length) = some 3 := by decide +kernel
theorem zpd_19 : (parseMethodDescriptor "(LElidedLocks$Guess;I)Z").map (fun d => d.parameters.length) = some 2 := by decide +kernel
theorem zpd_20 : (parseMethodDescriptor "(IIZ)I").map (fun d => d.parameters.length) = some 3 := by decide +kernel
theorem zpd_21 : (parseMethodDescriptor "(II)Z").map (fun d => d.parameters.length) = some 2 := by decide +kernel
theorem zpd_22 : (parseMethodDescriptor "(III)Z").map (fun d => d.parameters.length) = some 3 := by decide +kernel
theorem zpd_23 : (parseMethodDescriptor "()Z").map (fun d => d.parameters.length) = some 0 := by decide +kernel
theorem zpd_24 : (parseMethodDescriptor "([BLElidedLocks$Machine;)V").map (fun d => d.parameters.length) = some 2 := by decide +kernel
theorem zpd_25 : (parseMethodDescriptor "(LElidedLocks$Strand;)Z").map (fun d => d.parameters.length) = some 1 := by decide +kernel
theorem zpd_26 : (parseMethodDescriptor "(C)Z").map (fun d => d.parameters.length) = some 1 := by decide +kernel
theorem zpd_27 : (parseMethodDescriptor "(Ljava/lang/String;)I").map (fun d => d.parameters.length) = some 1 := by decide +kernel
theorem zpd_28 : (parseMethodDescriptor "(LElidedLocks$Strand;)V").map (fun d => d.parameters.length) = some 1 := by decide +kernel
theorem zpd_29 : (parseMethodDescriptor "(II)V").map (fun d => d.parameters.length) = some 2 := by decide +kernel
theorem zpd_30 : (parseMethodDescriptor "(LElidedLocks$Strand;)I").map (fun d => d.parameters.length) = some 1 := by decide +kernel
theorem zpd_31 : (parseMethodDescriptor "(Ljava/lang/String;I)V").map (fun d => d.parameters.length) = some 2 := by decide +kernel
theorem zpd_32 : (parseMethodDescriptor "(IIIII)I").map (fun d => d.parameters.length) = some 5 := by decide +kernel
theorem zpd_33 : (parseMethodDescriptor "(IZ)I").map (fun d => d.parameters.length) = some 2 := by decide +kernel
theorem zpd_34 : (parseMethodDescriptor "(ZI)Z").map (fun d => d.parameters.length) = some 2 := by decide +kernel
theorem zpd_35 : (parseMethodDescriptor "([I[I)V").map (fun d => d.parameters.length) = some 2 := by decide +kernel
theorem zpd_36 : (parseMethodDescriptor "(Ljava/lang/String;)Z").map (fun d => d.parameters.length) = some 1 := by decide +kernel
theorem zpd_37 : (parseMethodDescriptor "(IZZZ)I").map (fun d => d.parameters.length) = some 4 := by decide +kernel
theorem zpd_38 : (parseMethodDescriptor "(IIII)Z").map (fun d => d.parameters.length) = some 4 := by decide +kernel
theorem zpd_39 : (parseMethodDescriptor "(Ljava/lang/String;)V").map (fun d => d.parameters.length) = some 1 := by decide +kernel
theorem zpd_40 : (parseMethodDescriptor "(LElidedLocks;[J)I").map (fun d => d.parameters.length) = some 2 := by decide +kernel
theorem zpd_41 : (parseMethodDescriptor "(LElidedLocks;II[J)I").map (fun d => d.parameters.length) = some 4 := by decide +kernel
theorem zpd_42 : (parseMethodDescriptor "(LElidedLocks;I[J)I").map (fun d => d.parameters.length) = some 3 := by decide +kernel
theorem zpd_43 : (parseMethodDescriptor "(LElidedLocks;III[J)I").map (fun d => d.parameters.length) = some 5 := by decide +kernel
theorem zmo_0_0 : zmok 0 0 (yX0_init, cX0_init, 1, (none : Option FieldType), [], zk_0_0) (189, 188, 0, 111) = true := zmok_I rfl zpn_0 (Or.inl ⟨rfl, (zlw_1 (i := 83) rfl)⟩) (zlw_1 (i := 5) rfl) zpd_0 (Or.inr (zlw_1 (i := 82) rfl)) (Or.inr (Or.inl rfl)) (Or.inr rfl) rfl rfl
theorem zmo_0_1 : zmok 0 1 (yX0_copyFrom, cX0_copyFrom, 2, (none : Option FieldType), [], zk_0_1) (518, 516, 517, 111) = true := zmok_I rfl zpn_0 (Or.inl ⟨rfl, (zlw_2 (i := 172) rfl)⟩) (zlw_1 (i := 5) rfl) zpd_1 (Or.inr (zlw_2 (i := 170) rfl)) (Or.inr (Or.inr (zlw_2 (i := 171) rfl))) (Or.inl rfl) rfl rfl
theorem zmo_0_2 : zmok 0 2 (yX0_begin, cX0_begin, 4, (none : Option FieldType), [], zk_0_2) (639, 637, 638, 111) = true := zmok_I rfl zpn_0 (Or.inl ⟨rfl, (zlw_3 (i := 53) rfl)⟩) (zlw_1 (i := 5) rfl) zpd_2 (Or.inr (zlw_3 (i := 51) rfl)) (Or.inr (Or.inr (zlw_3 (i := 52) rfl))) (Or.inl rfl) rfl rfl
theorem zmo_0_3 : zmok 0 3 (yX0_close, cX0_close, 1, (none : Option FieldType), [], zk_0_3) (599, 597, 598, 111) = true := zmok_I rfl zpn_0 (Or.inl ⟨rfl, (zlw_3 (i := 13) rfl)⟩) (zlw_1 (i := 5) rfl) zpd_0 (Or.inr (zlw_3 (i := 11) rfl)) (Or.inr (Or.inr (zlw_3 (i := 12) rfl))) (Or.inl rfl) rfl rfl
theorem zmo_0_4 : zmok 0 4 (yX0_leavesOut, cX0_leavesOut, 3, (some FieldType.boolean), [], zk_0_4) (619, 617, 618, 111) = true := zmok_I rfl zpn_0 (Or.inl ⟨rfl, (zlw_3 (i := 33) rfl)⟩) (zlw_1 (i := 5) rfl) zpd_3 (Or.inr (zlw_3 (i := 31) rfl)) (Or.inr (Or.inr (zlw_3 (i := 32) rfl))) (Or.inl rfl) rfl rfl
theorem zmo_0_5 : zmok 0 5 (yX0_leaveOut, cX0_leaveOut, 2, (none : Option FieldType), [], zk_0_5) (631, 629, 630, 111) = true := zmok_I rfl zpn_0 (Or.inl ⟨rfl, (zlw_3 (i := 45) rfl)⟩) (zlw_1 (i := 5) rfl) zpd_4 (Or.inr (zlw_3 (i := 43) rfl)) (Or.inr (Or.inr (zlw_3 (i := 44) rfl))) (Or.inl rfl) rfl rfl
theorem zmo_0_6 : zmok 0 6 (yX0_latestLeftOut, cX0_latestLeftOut, 1, (some FieldType.int), [], zk_0_6) (651, 649, 650, 111) = true := zmok_I rfl zpn_0 (Or.inl ⟨rfl, (zlw_3 (i := 65) rfl)⟩) (zlw_1 (i := 5) rfl) zpd_5 (Or.inr (zlw_3 (i := 63) rfl)) (Or.inr (Or.inr (zlw_3 (i := 64) rfl))) (Or.inl rfl) rfl rfl
theorem zmo_0_7 : zmok 0 7 (yX0_write, cX0_write, 4, (none : Option FieldType), [], zk_0_7) (615, 613, 614, 111) = true := zmok_I rfl zpn_0 (Or.inl ⟨rfl, (zlw_3 (i := 29) rfl)⟩) (zlw_1 (i := 5) rfl) zpd_2 (Or.inr (zlw_3 (i := 27) rfl)) (Or.inr (Or.inr (zlw_3 (i := 28) rfl))) (Or.inl rfl) rfl rfl
theorem zmo_0_8 : zmok 0 8 (yX0_hasValue, cX0_hasValue, 2, (some FieldType.boolean), [], zk_0_8) (627, 625, 626, 111) = true := zmok_I rfl zpn_0 (Or.inl ⟨rfl, (zlw_3 (i := 41) rfl)⟩) (zlw_1 (i := 5) rfl) zpd_3 (Or.inr (zlw_3 (i := 39) rfl)) (Or.inr (Or.inr (zlw_3 (i := 40) rfl))) (Or.inl rfl) rfl rfl
theorem zmo_1_0 : zmok 1 0 (yX1_init, cX1_init, 2, (none : Option FieldType), [], zk_1_0) (151, 150, 0, 109) = true := zmok_I rfl zpn_1 (Or.inl ⟨rfl, (zlw_1 (i := 45) rfl)⟩) (zlw_1 (i := 3) rfl) zpd_4 (Or.inr (zlw_1 (i := 44) rfl)) (Or.inr (Or.inl rfl)) (Or.inr rfl) rfl rfl
theorem zmo_1_1 : zmok 1 1 (yX1_copyFrom, cX1_copyFrom, 2, (none : Option FieldType), [], zk_1_1) (509, 507, 508, 109) = true := zmok_I rfl zpn_1 (Or.inl ⟨rfl, (zlw_2 (i := 163) rfl)⟩) (zlw_1 (i := 3) rfl) zpd_6 (Or.inr (zlw_2 (i := 161) rfl)) (Or.inr (Or.inr (zlw_2 (i := 162) rfl))) (Or.inl rfl) rfl rfl
theorem zmo_1_2 : zmok 1 2 (yX1_gain, cX1_gain, 2, (none : Option FieldType), [], zk_1_2) (643, 641, 642, 109) = true := zmok_I rfl zpn_1 (Or.inl ⟨rfl, (zlw_3 (i := 57) rfl)⟩) (zlw_1 (i := 3) rfl) zpd_4 (Or.inr (zlw_3 (i := 55) rfl)) (Or.inr (Or.inr (zlw_3 (i := 56) rfl))) (Or.inl rfl) rfl rfl
theorem zmo_1_3 : zmok 1 3 (yX1_lose, cX1_lose, 2, (none : Option FieldType), [], zk_1_3) (595, 593, 594, 109) = true := zmok_I rfl zpn_1 (Or.inl ⟨rfl, (zlw_3 (i := 9) rfl)⟩) (zlw_1 (i := 3) rfl) zpd_4 (Or.inr (zlw_3 (i := 7) rfl)) (Or.inr (Or.inr (zlw_3 (i := 8) rfl))) (Or.inl rfl) rfl rfl
theorem zmo_2_0 : zmok 2 0 (yX2_init, cX2_init, 1, (none : Option FieldType), [], zk_2_0) (289, 288, 0, 112) = true := zmok_I rfl zpn_2 (Or.inl ⟨rfl, (zlw_1 (i := 183) rfl)⟩) (zlw_1 (i := 6) rfl) zpd_0 (Or.inr (zlw_1 (i := 182) rfl)) (Or.inr (Or.inl rfl)) (Or.inr rfl) rfl rfl
theorem zmo_2_1 : zmok 2 1 (yX2_copyFrom, cX2_copyFrom, 2, (none : Option FieldType), [], zk_2_1) (523, 521, 522, 112) = true := zmok_I rfl zpn_2 (Or.inl ⟨rfl, (zlw_2 (i := 177) rfl)⟩) (zlw_1 (i := 6) rfl) zpd_7 (Or.inr (zlw_2 (i := 175) rfl)) (Or.inr (Or.inr (zlw_2 (i := 176) rfl))) (Or.inl rfl) rfl rfl
theorem zmo_2_2 : zmok 2 2 (yX2_add, cX2_add, 6, (none : Option FieldType), [], zk_2_2) (603, 601, 602, 112) = true := zmok_I rfl zpn_2 (Or.inl ⟨rfl, (zlw_3 (i := 17) rfl)⟩) (zlw_1 (i := 6) rfl) zpd_8 (Or.inr (zlw_3 (i := 15) rfl)) (Or.inr (Or.inr (zlw_3 (i := 16) rfl))) (Or.inl rfl) rfl rfl
theorem zmo_2_3 : zmok 2 3 (yX2_cell, cX2_cell, 3, (some FieldType.int), [], zk_2_3) (1258, 1256, 1257, 112) = true := zmok_I rfl zpn_2 (Or.inl ⟨rfl, (zlw_5 (i := 192) rfl)⟩) (zlw_1 (i := 6) rfl) zpd_9 (Or.inr (zlw_5 (i := 190) rfl)) (Or.inr (Or.inr (zlw_5 (i := 191) rfl))) (Or.inl rfl) rfl rfl
theorem zmo_3_0 : zmok 3 0 (yX3_init, cX3_init, 1, (none : Option FieldType), [], zk_3_0) (144, 143, 0, 108) = true := zmok_I rfl zpn_3 (Or.inl ⟨rfl, (zlw_1 (i := 38) rfl)⟩) (zlw_1 (i := 2) rfl) zpd_0 (Or.inr (zlw_1 (i := 37) rfl)) (Or.inr (Or.inl rfl)) (Or.inr rfl) rfl rfl
theorem zmo_3_1 : zmok 3 1 (yX3_copyFrom, cX3_copyFrom, 3, (none : Option FieldType), [], zk_3_1) (502, 500, 501, 108) = true := zmok_I rfl zpn_3 (Or.inl ⟨rfl, (zlw_2 (i := 156) rfl)⟩) (zlw_1 (i := 2) rfl) zpd_10 (Or.inr (zlw_2 (i := 154) rfl)) (Or.inr (Or.inr (zlw_2 (i := 155) rfl))) (Or.inl rfl) rfl rfl
theorem zmo_3_2 : zmok 3 2 (yX3_strandAt, cX3_strandAt, 2, (some (FieldType.object "ElidedLocks$Strand")), [], zk_3_2) (536, 534, 535, 108) = true := zmok_I rfl zpn_3 (Or.inl ⟨rfl, (zlw_2 (i := 190) rfl)⟩) (zlw_1 (i := 2) rfl) zpd_11 (Or.inr (zlw_2 (i := 188) rfl)) (Or.inr (Or.inr (zlw_2 (i := 189) rfl))) (Or.inl rfl) rfl rfl
theorem zmo_3_3 : zmok 3 3 (yX3_lockAt, cX3_lockAt, 2, (some (FieldType.object "ElidedLocks$Lock")), [], zk_3_3) (562, 560, 561, 108) = true := zmok_I rfl zpn_3 (Or.inl ⟨rfl, (zlw_2 (i := 216) rfl)⟩) (zlw_1 (i := 2) rfl) zpd_12 (Or.inr (zlw_2 (i := 214) rfl)) (Or.inr (Or.inr (zlw_2 (i := 215) rfl))) (Or.inl rfl) rfl rfl
theorem zmo_3_4 : zmok 3 4 (yX3_blockBit, cX3_blockBit, 3, (some FieldType.int), [], zk_3_4) (570, 568, 569, 108) = true := zmok_I rfl zpn_3 (Or.inl ⟨rfl, (zlw_2 (i := 224) rfl)⟩) (zlw_1 (i := 2) rfl) zpd_13 (Or.inr (zlw_2 (i := 222) rfl)) (Or.inr (Or.inr (zlw_2 (i := 223) rfl))) (Or.inl rfl) rfl rfl
theorem zmo_3_5 : zmok 3 5 (yX3_seenBy, cX3_seenBy, 4, (some FieldType.int), [], zk_3_5) (623, 621, 622, 108) = true := zmok_I rfl zpn_3 (Or.inl ⟨rfl, (zlw_3 (i := 37) rfl)⟩) (zlw_1 (i := 2) rfl) zpd_14 (Or.inr (zlw_3 (i := 35) rfl)) (Or.inr (Or.inr (zlw_3 (i := 36) rfl))) (Or.inl rfl) rfl rfl
theorem zmo_3_6 : zmok 3 6 (yX3_isGuessing, cX3_isGuessing, 2, (some FieldType.boolean), [], zk_3_6) (577, 575, 576, 108) = true := zmok_I rfl zpn_3 (Or.inl ⟨rfl, (zlw_2 (i := 231) rfl)⟩) (zlw_1 (i := 2) rfl) zpd_3 (Or.inr (zlw_2 (i := 229) rfl)) (Or.inr (Or.inr (zlw_2 (i := 230) rfl))) (Or.inl rfl) rfl rfl
theorem zmo_3_7 : zmok 3 7 (yX3_isDone, cX3_isDone, 2, (some FieldType.boolean), [], zk_3_7) (528, 526, 527, 108) = true := zmok_I rfl zpn_3 (Or.inl ⟨rfl, (zlw_2 (i := 182) rfl)⟩) (zlw_1 (i := 2) rfl) zpd_3 (Or.inr (zlw_2 (i := 180) rfl)) (Or.inr (Or.inr (zlw_2 (i := 181) rfl))) (Or.inl rfl) rfl rfl
theorem zmo_3_8 : zmok 3 8 (yX3_nextByTurn, cX3_nextByTurn, 3, (some FieldType.int), [], zk_3_8) (532, 530, 531, 108) = true := zmok_I rfl zpn_3 (Or.inl ⟨rfl, (zlw_2 (i := 186) rfl)⟩) (zlw_1 (i := 2) rfl) zpd_5 (Or.inr (zlw_2 (i := 184) rfl)) (Or.inr (Or.inr (zlw_2 (i := 185) rfl))) (Or.inl rfl) rfl rfl
theorem zmo_3_9 : zmok 3 9 (yX3_nextByDraw, cX3_nextByDraw, 4, (some FieldType.int), [], zk_3_9) (1153, 1151, 1152, 108) = true := zmok_I rfl zpn_3 (Or.inl ⟨rfl, (zlw_5 (i := 87) rfl)⟩) (zlw_1 (i := 2) rfl) zpd_5 (Or.inr (zlw_5 (i := 85) rfl)) (Or.inr (Or.inr (zlw_5 (i := 86) rfl))) (Or.inl rfl) rfl rfl
theorem zmo_3_10 : zmok 3 10 (yX3_draw, cX3_draw, 2, (some FieldType.int), [], zk_3_10) (1158, 1157, 33, 108) = true := zmok_I rfl zpn_3 (Or.inl ⟨rfl, (zlw_5 (i := 92) rfl)⟩) (zlw_1 (i := 2) rfl) zpd_13 (Or.inr (zlw_5 (i := 91) rfl)) (Or.inr (Or.inr (zlw_0 (i := 33) rfl))) (Or.inl rfl) rfl rfl
theorem zmo_3_11 : zmok 3 11 (yX3_takeStep, cX3_takeStep, 5, (some FieldType.int), [], zk_3_11) (546, 544, 545, 108) = true := zmok_I rfl zpn_3 (Or.inl ⟨rfl, (zlw_2 (i := 200) rfl)⟩) (zlw_1 (i := 2) rfl) zpd_13 (Or.inr (zlw_2 (i := 198) rfl)) (Or.inr (Or.inr (zlw_2 (i := 199) rfl))) (Or.inl rfl) rfl rfl
theorem zmo_3_12 : zmok 3 12 (yX3_moveOn, cX3_moveOn, 3, (some FieldType.int), [], zk_3_12) (671, 670, 13, 108) = true := zmok_I rfl zpn_3 (Or.inl ⟨rfl, (zlw_3 (i := 85) rfl)⟩) (zlw_1 (i := 2) rfl) zpd_15 (Or.inr (zlw_3 (i := 84) rfl)) (Or.inr (Or.inr (zlw_0 (i := 13) rfl))) (Or.inl rfl) rfl rfl
theorem zmo_3_13 : zmok 3 13 (yX3_takePlainly, cX3_takePlainly, 5, (some FieldType.int), [], zk_3_13) (635, 634, 7, 108) = true := zmok_I rfl zpn_3 (Or.inl ⟨rfl, (zlw_3 (i := 49) rfl)⟩) (zlw_1 (i := 2) rfl) zpd_16 (Or.inr (zlw_3 (i := 48) rfl)) (Or.inr (Or.inr (zlw_0 (i := 7) rfl))) (Or.inl rfl) rfl rfl
theorem zmo_3_14 : zmok 3 14 (yX3_takeGuessing, cX3_takeGuessing, 5, (some FieldType.int), [], zk_3_14) (558, 557, 2, 108) = true := zmok_I rfl zpn_3 (Or.inl ⟨rfl, (zlw_2 (i := 212) rfl)⟩) (zlw_1 (i := 2) rfl) zpd_16 (Or.inr (zlw_2 (i := 211) rfl)) (Or.inr (Or.inr (zlw_0 (i := 2) rfl))) (Or.inl rfl) rfl rfl
theorem zmo_3_15 : zmok 3 15 (yX3_dropLock, cX3_dropLock, 5, (some FieldType.int), [], zk_3_15) (647, 646, 8, 108) = true := zmok_I rfl zpn_3 (Or.inl ⟨rfl, (zlw_3 (i := 61) rfl)⟩) (zlw_1 (i := 2) rfl) zpd_16 (Or.inr (zlw_3 (i := 60) rfl)) (Or.inr (Or.inr (zlw_0 (i := 8) rfl))) (Or.inl rfl) rfl rfl
theorem zmo_3_16 : zmok 3 16 (yX3_keep, cX3_keep, 5, (none : Option FieldType), [], zk_3_16) (655, 654, 9, 108) = true := zmok_I rfl zpn_3 (Or.inl ⟨rfl, (zlw_3 (i := 69) rfl)⟩) (zlw_1 (i := 2) rfl) zpd_17 (Or.inr (zlw_3 (i := 68) rfl)) (Or.inr (Or.inr (zlw_0 (i := 9) rfl))) (Or.inl rfl) rfl rfl
theorem zmo_3_17 : zmok 3 17 (yX3_getWord, cX3_getWord, 5, (some FieldType.int), [], zk_3_17) (659, 658, 10, 108) = true := zmok_I rfl zpn_3 (Or.inl ⟨rfl, (zlw_3 (i := 73) rfl)⟩) (zlw_1 (i := 2) rfl) zpd_16 (Or.inr (zlw_3 (i := 72) rfl)) (Or.inr (Or.inr (zlw_0 (i := 10) rfl))) (Or.inl rfl) rfl rfl
theorem zmo_3_18 : zmok 3 18 (yX3_goOnWorking, cX3_goOnWorking, 3, (some FieldType.int), [], zk_3_18) (663, 662, 11, 108) = true := zmok_I rfl zpn_3 (Or.inl ⟨rfl, (zlw_3 (i := 77) rfl)⟩) (zlw_1 (i := 2) rfl) zpd_14 (Or.inr (zlw_3 (i := 76) rfl)) (Or.inr (Or.inr (zlw_0 (i := 11) rfl))) (Or.inl rfl) rfl rfl
theorem zmo_3_19 : zmok 3 19 (yX3_putOut, cX3_putOut, 3, (some FieldType.int), [], zk_3_19) (667, 666, 12, 108) = true := zmok_I rfl zpn_3 (Or.inl ⟨rfl, (zlw_3 (i := 81) rfl)⟩) (zlw_1 (i := 2) rfl) zpd_15 (Or.inr (zlw_3 (i := 80) rfl)) (Or.inr (Or.inr (zlw_0 (i := 12) rfl))) (Or.inl rfl) rfl rfl
theorem zmo_3_20 : zmok 3 20 (yX3_reach, cX3_reach, 9, (some FieldType.int), [], zk_3_20) (566, 564, 565, 108) = true := zmok_I rfl zpn_3 (Or.inl ⟨rfl, (zlw_2 (i := 220) rfl)⟩) (zlw_1 (i := 2) rfl) zpd_18 (Or.inr (zlw_2 (i := 218) rfl)) (Or.inr (Or.inr (zlw_2 (i := 219) rfl))) (Or.inl rfl) rfl rfl
theorem zmo_3_21 : zmok 3 21 (yX3_isFull, cX3_isFull, 3, (some FieldType.boolean), [], zk_3_21) (581, 580, 3, 108) = true := zmok_I rfl zpn_3 (Or.inl ⟨rfl, (zlw_2 (i := 235) rfl)⟩) (zlw_1 (i := 2) rfl) zpd_19 (Or.inr (zlw_2 (i := 234) rfl)) (Or.inr (Or.inr (zlw_0 (i := 3) rfl))) (Or.inl rfl) rfl rfl
theorem zmo_3_22 : zmok 3 22 (yX3_holdersOf, cX3_holdersOf, 8, (some FieldType.int), [], zk_3_22) (607, 606, 5, 108) = true := zmok_I rfl zpn_3 (Or.inl ⟨rfl, (zlw_3 (i := 21) rfl)⟩) (zlw_1 (i := 2) rfl) zpd_20 (Or.inr (zlw_3 (i := 20) rfl)) (Or.inr (Or.inr (zlw_0 (i := 5) rfl))) (Or.inl rfl) rfl rfl
theorem zmo_3_23 : zmok 3 23 (yX3_anyBefore, cX3_anyBefore, 4, (some FieldType.boolean), [], zk_3_23) (611, 610, 6, 108) = true := zmok_I rfl zpn_3 (Or.inl ⟨rfl, (zlw_3 (i := 25) rfl)⟩) (zlw_1 (i := 2) rfl) zpd_21 (Or.inr (zlw_3 (i := 24) rfl)) (Or.inr (Or.inr (zlw_0 (i := 6) rfl))) (Or.inl rfl) rfl rfl
theorem zmo_3_24 : zmok 3 24 (yX3_fall, cX3_fall, 4, (some FieldType.int), [], zk_3_24) (591, 590, 4, 108) = true := zmok_I rfl zpn_3 (Or.inl ⟨rfl, (zlw_3 (i := 5) rfl)⟩) (zlw_1 (i := 2) rfl) zpd_9 (Or.inr (zlw_3 (i := 4) rfl)) (Or.inr (Or.inr (zlw_0 (i := 4) rfl))) (Or.inl rfl) rfl rfl
theorem zmo_3_25 : zmok 3 25 (yX3_blocksOf, cX3_blocksOf, 7, (some FieldType.int), [], zk_3_25) (1210, 1208, 1209, 108) = true := zmok_I rfl zpn_3 (Or.inl ⟨rfl, (zlw_5 (i := 144) rfl)⟩) (zlw_1 (i := 2) rfl) zpd_14 (Or.inr (zlw_5 (i := 142) rfl)) (Or.inr (Or.inr (zlw_5 (i := 143) rfl))) (Or.inl rfl) rfl rfl
theorem zmo_3_26 : zmok 3 26 (yX3_leavingOut, cX3_leavingOut, 4, (some FieldType.int), [], zk_3_26) (1092, 1090, 1091, 108) = true := zmok_I rfl zpn_3 (Or.inl ⟨rfl, (zlw_5 (i := 26) rfl)⟩) (zlw_1 (i := 2) rfl) zpd_13 (Or.inr (zlw_5 (i := 24) rfl)) (Or.inr (Or.inr (zlw_5 (i := 25) rfl))) (Or.inl rfl) rfl rfl
theorem zmo_3_27 : zmok 3 27 (yX3_doneBits, cX3_doneBits, 3, (some FieldType.int), [], zk_3_27) (752, 750, 751, 108) = true := zmok_I rfl zpn_3 (Or.inl ⟨rfl, (zlw_3 (i := 166) rfl)⟩) (zlw_1 (i := 2) rfl) zpd_5 (Or.inr (zlw_3 (i := 164) rfl)) (Or.inr (Or.inr (zlw_3 (i := 165) rfl))) (Or.inl rfl) rfl rfl
theorem zmo_3_28 : zmok 3 28 (yX3_guessingBits, cX3_guessingBits, 3, (some FieldType.int), [], zk_3_28) (756, 754, 755, 108) = true := zmok_I rfl zpn_3 (Or.inl ⟨rfl, (zlw_3 (i := 170) rfl)⟩) (zlw_1 (i := 2) rfl) zpd_5 (Or.inr (zlw_3 (i := 168) rfl)) (Or.inr (Or.inr (zlw_3 (i := 169) rfl))) (Or.inl rfl) rfl rfl
theorem zmo_3_29 : zmok 3 29 (yX3_lockBits, cX3_lockBits, 3, (some FieldType.int), [], zk_3_29) (764, 762, 763, 108) = true := zmok_I rfl zpn_3 (Or.inl ⟨rfl, (zlw_3 (i := 178) rfl)⟩) (zlw_1 (i := 2) rfl) zpd_5 (Or.inr (zlw_3 (i := 176) rfl)) (Or.inr (Or.inr (zlw_3 (i := 177) rfl))) (Or.inl rfl) rfl rfl
theorem zmo_3_30 : zmok 3 30 (yX3_allKept, cX3_allKept, 3, (some FieldType.int), [], zk_3_30) (760, 758, 759, 108) = true := zmok_I rfl zpn_3 (Or.inl ⟨rfl, (zlw_3 (i := 174) rfl)⟩) (zlw_1 (i := 2) rfl) zpd_5 (Or.inr (zlw_3 (i := 172) rfl)) (Or.inr (Or.inr (zlw_3 (i := 173) rfl))) (Or.inl rfl) rfl rfl
theorem zmo_3_31 : zmok 3 31 (yX3_isWordOfOther, cX3_isWordOfOther, 4, (some FieldType.boolean), [], zk_3_31) (863, 861, 862, 108) = true := zmok_I rfl zpn_3 (Or.inl ⟨rfl, (zlw_4 (i := 37) rfl)⟩) (zlw_1 (i := 2) rfl) zpd_21 (Or.inr (zlw_4 (i := 35) rfl)) (Or.inr (Or.inr (zlw_4 (i := 36) rfl))) (Or.inl rfl) rfl rfl
theorem zmo_4_0 : zmok 4 0 (yX4_init, cX4_init, 2, (none : Option FieldType), [], zk_4_0) (406, 405, 0, 115) = true := zmok_I rfl zpn_4 (Or.inl ⟨rfl, (zlw_2 (i := 60) rfl)⟩) (zlw_1 (i := 9) rfl) zpd_10 (Or.inr (zlw_2 (i := 59) rfl)) (Or.inr (Or.inl rfl)) (Or.inr rfl) rfl rfl
theorem zmo_4_1 : zmok 4 1 (yX4_forget, cX4_forget, 1, (none : Option FieldType), [], zk_4_1) (744, 742, 743, 115) = true := zmok_I rfl zpn_4 (Or.inl ⟨rfl, (zlw_3 (i := 158) rfl)⟩) (zlw_1 (i := 9) rfl) zpd_0 (Or.inr (zlw_3 (i := 156) rfl)) (Or.inr (Or.inr (zlw_3 (i := 157) rfl))) (Or.inl rfl) rfl rfl
theorem zmo_4_2 : zmok 4 2 (yX4_threadOf, cX4_threadOf, 2, (some FieldType.int), [], zk_4_2) (724, 722, 723, 115) = true := zmok_I rfl zpn_4 (Or.inl ⟨rfl, (zlw_3 (i := 138) rfl)⟩) (zlw_1 (i := 9) rfl) zpd_13 (Or.inr (zlw_3 (i := 136) rfl)) (Or.inr (Or.inr (zlw_3 (i := 137) rfl))) (Or.inl rfl) rfl rfl
theorem zmo_4_3 : zmok 4 3 (yX4_search, cX4_search, 2, (none : Option FieldType), [], zk_4_3) (679, 677, 678, 115) = true := zmok_I rfl zpn_4 (Or.inl ⟨rfl, (zlw_3 (i := 93) rfl)⟩) (zlw_1 (i := 9) rfl) zpd_0 (Or.inr (zlw_3 (i := 91) rfl)) (Or.inr (Or.inr (zlw_3 (i := 92) rfl))) (Or.inl rfl) rfl rfl
theorem zmo_4_4 : zmok 4 4 (yX4_placeFrom, cX4_placeFrom, 6, (some FieldType.boolean), [], zk_4_4) (700, 699, 14, 115) = true := zmok_I rfl zpn_4 (Or.inl ⟨rfl, (zlw_3 (i := 114) rfl)⟩) (zlw_1 (i := 9) rfl) zpd_3 (Or.inr (zlw_3 (i := 113) rfl)) (Or.inr (Or.inr (zlw_0 (i := 14) rfl))) (Or.inl rfl) rfl rfl
theorem zmo_4_5 : zmok 4 5 (yX4_playPart, cX4_playPart, 6, (some FieldType.boolean), [], zk_4_5) (708, 707, 16, 115) = true := zmok_I rfl zpn_4 (Or.inl ⟨rfl, (zlw_3 (i := 122) rfl)⟩) (zlw_1 (i := 9) rfl) zpd_3 (Or.inr (zlw_3 (i := 121) rfl)) (Or.inr (Or.inr (zlw_0 (i := 16) rfl))) (Or.inl rfl) rfl rfl
theorem zmo_4_6 : zmok 4 6 (yX4_playDeed, cX4_playDeed, 6, (some FieldType.boolean), [], zk_4_6) (715, 714, 17, 115) = true := zmok_I rfl zpn_4 (Or.inl ⟨rfl, (zlw_3 (i := 129) rfl)⟩) (zlw_1 (i := 9) rfl) zpd_22 (Or.inr (zlw_3 (i := 128) rfl)) (Or.inr (Or.inr (zlw_0 (i := 17) rfl))) (Or.inl rfl) rfl rfl
theorem zmo_4_7 : zmok 4 7 (yX4_playOutput, cX4_playOutput, 3, (some FieldType.boolean), [], zk_4_7) (720, 719, 18, 115) = true := zmok_I rfl zpn_4 (Or.inl ⟨rfl, (zlw_3 (i := 134) rfl)⟩) (zlw_1 (i := 9) rfl) zpd_21 (Or.inr (zlw_3 (i := 133) rfl)) (Or.inr (Or.inr (zlw_0 (i := 18) rfl))) (Or.inl rfl) rfl rfl
theorem zmo_4_8 : zmok 4 8 (yX4_cameOut, cX4_cameOut, 2, (some FieldType.boolean), [], zk_4_8) (704, 703, 15, 115) = true := zmok_I rfl zpn_4 (Or.inl ⟨rfl, (zlw_3 (i := 118) rfl)⟩) (zlw_1 (i := 9) rfl) zpd_23 (Or.inr (zlw_3 (i := 117) rfl)) (Or.inr (Or.inr (zlw_0 (i := 15) rfl))) (Or.inl rfl) rfl rfl
theorem zmo_5_0 : zmok 5 0 (yX5_init, cX5_init, 3, (none : Option FieldType), [], zk_5_0) (370, 369, 0, 113) = true := zmok_I rfl zpn_5 (Or.inl ⟨rfl, (zlw_2 (i := 24) rfl)⟩) (zlw_1 (i := 7) rfl) zpd_24 (Or.inr (zlw_2 (i := 23) rfl)) (Or.inr (Or.inl rfl)) (Or.inr rfl) rfl rfl
theorem zmo_5_1 : zmok 5 1 (yX5_readAll, cX5_readAll, 3, (some FieldType.int), [], zk_5_1) (777, 775, 776, 113) = true := zmok_I rfl zpn_5 (Or.inl ⟨rfl, (zlw_3 (i := 191) rfl)⟩) (zlw_1 (i := 7) rfl) zpd_13 (Or.inr (zlw_3 (i := 189) rfl)) (Or.inr (Or.inr (zlw_3 (i := 190) rfl))) (Or.inl rfl) rfl rfl
theorem zmo_5_2 : zmok 5 2 (yX5_readLine, cX5_readLine, 2, (some FieldType.boolean), [], zk_5_2) (788, 787, 20, 113) = true := zmok_I rfl zpn_5 (Or.inl ⟨rfl, (zlw_3 (i := 202) rfl)⟩) (zlw_1 (i := 7) rfl) zpd_23 (Or.inr (zlw_3 (i := 201) rfl)) (Or.inr (Or.inr (zlw_0 (i := 20) rfl))) (Or.inl rfl) rfl rfl
theorem zmo_5_3 : zmok 5 3 (yX5_readTerm, cX5_readTerm, 3, (some FieldType.boolean), [], zk_5_3) (867, 866, 26, 113) = true := zmok_I rfl zpn_5 (Or.inl ⟨rfl, (zlw_4 (i := 41) rfl)⟩) (zlw_1 (i := 7) rfl) zpd_3 (Or.inr (zlw_4 (i := 40) rfl)) (Or.inr (Or.inr (zlw_0 (i := 26) rfl))) (Or.inl rfl) rfl rfl
theorem zmo_5_4 : zmok 5 4 (yX5_readTrust, cX5_readTrust, 3, (some FieldType.boolean), [], zk_5_4) (845, 844, 22, 113) = true := zmok_I rfl zpn_5 (Or.inl ⟨rfl, (zlw_4 (i := 19) rfl)⟩) (zlw_1 (i := 7) rfl) zpd_23 (Or.inr (zlw_4 (i := 18) rfl)) (Or.inr (Or.inr (zlw_0 (i := 22) rfl))) (Or.inl rfl) rfl rfl
theorem zmo_5_5 : zmok 5 5 (yX5_readWord, cX5_readWord, 3, (some FieldType.boolean), [], zk_5_5) (854, 853, 24, 113) = true := zmok_I rfl zpn_5 (Or.inl ⟨rfl, (zlw_4 (i := 28) rfl)⟩) (zlw_1 (i := 7) rfl) zpd_23 (Or.inr (zlw_4 (i := 27) rfl)) (Or.inr (Or.inr (zlw_0 (i := 24) rfl))) (Or.inl rfl) rfl rfl
theorem zmo_5_6 : zmok 5 6 (yX5_readLock, cX5_readLock, 3, (some FieldType.boolean), [], zk_5_6) (858, 857, 25, 113) = true := zmok_I rfl zpn_5 (Or.inl ⟨rfl, (zlw_4 (i := 32) rfl)⟩) (zlw_1 (i := 7) rfl) zpd_23 (Or.inr (zlw_4 (i := 31) rfl)) (Or.inr (Or.inr (zlw_0 (i := 25) rfl))) (Or.inl rfl) rfl rfl
theorem zmo_5_7 : zmok 5 7 (yX5_readProgram, cX5_readProgram, 3, (some FieldType.boolean), [], zk_5_7) (875, 874, 27, 113) = true := zmok_I rfl zpn_5 (Or.inl ⟨rfl, (zlw_4 (i := 49) rfl)⟩) (zlw_1 (i := 7) rfl) zpd_23 (Or.inr (zlw_4 (i := 48) rfl)) (Or.inr (Or.inr (zlw_0 (i := 27) rfl))) (Or.inl rfl) rfl rfl
theorem zmo_5_8 : zmok 5 8 (yX5_readDeed, cX5_readDeed, 4, (some FieldType.boolean), [], zk_5_8) (885, 884, 28, 113) = true := zmok_I rfl zpn_5 (Or.inl ⟨rfl, (zlw_4 (i := 59) rfl)⟩) (zlw_1 (i := 7) rfl) zpd_25 (Or.inr (zlw_4 (i := 58) rfl)) (Or.inr (Or.inr (zlw_0 (i := 28) rfl))) (Or.inl rfl) rfl rfl
theorem zmo_5_9 : zmok 5 9 (yX5_lookAhead, cX5_lookAhead, 1, (none : Option FieldType), [], zk_5_9) (784, 783, 19, 113) = true := zmok_I rfl zpn_5 (Or.inl ⟨rfl, (zlw_3 (i := 198) rfl)⟩) (zlw_1 (i := 7) rfl) zpd_0 (Or.inr (zlw_3 (i := 197) rfl)) (Or.inr (Or.inr (zlw_0 (i := 19) rfl))) (Or.inl rfl) rfl rfl
theorem zmo_5_10 : zmok 5 10 (yX5_skipSign, cX5_skipSign, 2, (some FieldType.boolean), [], zk_5_10) (898, 897, 29, 113) = true := zmok_I rfl zpn_5 (Or.inl ⟨rfl, (zlw_4 (i := 72) rfl)⟩) (zlw_1 (i := 7) rfl) zpd_26 (Or.inr (zlw_4 (i := 71) rfl)) (Or.inr (Or.inr (zlw_0 (i := 29) rfl))) (Or.inl rfl) rfl rfl
theorem zmo_5_11 : zmok 5 11 (yX5_readName, cX5_readName, 6, (some FieldType.int), [], zk_5_11) (793, 792, 21, 113) = true := zmok_I rfl zpn_5 (Or.inl ⟨rfl, (zlw_3 (i := 207) rfl)⟩) (zlw_1 (i := 7) rfl) zpd_27 (Or.inr (zlw_3 (i := 206) rfl)) (Or.inr (Or.inr (zlw_0 (i := 21) rfl))) (Or.inl rfl) rfl rfl
theorem zmo_5_12 : zmok 5 12 (yX5_readNumber, cX5_readNumber, 6, (some FieldType.int), [], zk_5_12) (849, 848, 23, 113) = true := zmok_I rfl zpn_5 (Or.inl ⟨rfl, (zlw_4 (i := 23) rfl)⟩) (zlw_1 (i := 7) rfl) zpd_9 (Or.inr (zlw_4 (i := 22) rfl)) (Or.inr (Or.inr (zlw_0 (i := 23) rfl))) (Or.inl rfl) rfl rfl
theorem zmo_6_0 : zmok 6 0 (yX6_init, cX6_init, 1, (none : Option FieldType), [], zk_6_0) (183, 182, 0, 110) = true := zmok_I rfl zpn_6 (Or.inl ⟨rfl, (zlw_1 (i := 77) rfl)⟩) (zlw_1 (i := 4) rfl) zpd_0 (Or.inr (zlw_1 (i := 76) rfl)) (Or.inr (Or.inl rfl)) (Or.inr rfl) rfl rfl
theorem zmo_6_1 : zmok 6 1 (yX6_copyFrom, cX6_copyFrom, 2, (none : Option FieldType), [], zk_6_1) (513, 511, 512, 110) = true := zmok_I rfl zpn_6 (Or.inl ⟨rfl, (zlw_2 (i := 167) rfl)⟩) (zlw_1 (i := 4) rfl) zpd_28 (Or.inr (zlw_2 (i := 165) rfl)) (Or.inr (Or.inr (zlw_2 (i := 166) rfl))) (Or.inl rfl) rfl rfl
theorem zmo_6_2 : zmok 6 2 (yX6_clear, cX6_clear, 2, (none : Option FieldType), [], zk_6_2) (880, 878, 879, 110) = true := zmok_I rfl zpn_6 (Or.inl ⟨rfl, (zlw_4 (i := 54) rfl)⟩) (zlw_1 (i := 4) rfl) zpd_0 (Or.inr (zlw_4 (i := 52) rfl)) (Or.inr (Or.inr (zlw_4 (i := 53) rfl))) (Or.inl rfl) rfl rfl
theorem zmo_6_3 : zmok 6 3 (yX6_addDeed, cX6_addDeed, 3, (none : Option FieldType), [], zk_6_3) (894, 892, 893, 110) = true := zmok_I rfl zpn_6 (Or.inl ⟨rfl, (zlw_4 (i := 68) rfl)⟩) (zlw_1 (i := 4) rfl) zpd_29 (Or.inr (zlw_4 (i := 66) rfl)) (Or.inr (Or.inr (zlw_4 (i := 67) rfl))) (Or.inl rfl) rfl rfl
theorem zmo_6_4 : zmok 6 4 (yX6_kindAt, cX6_kindAt, 2, (some FieldType.int), [], zk_6_4) (554, 552, 553, 110) = true := zmok_I rfl zpn_6 (Or.inl ⟨rfl, (zlw_2 (i := 208) rfl)⟩) (zlw_1 (i := 4) rfl) zpd_13 (Or.inr (zlw_2 (i := 206) rfl)) (Or.inr (Or.inr (zlw_2 (i := 207) rfl))) (Or.inl rfl) rfl rfl
theorem zmo_6_5 : zmok 6 5 (yX6_numberAt, cX6_numberAt, 2, (some FieldType.int), [], zk_6_5) (550, 548, 549, 110) = true := zmok_I rfl zpn_6 (Or.inl ⟨rfl, (zlw_2 (i := 204) rfl)⟩) (zlw_1 (i := 4) rfl) zpd_13 (Or.inr (zlw_2 (i := 202) rfl)) (Or.inr (Or.inr (zlw_2 (i := 203) rfl))) (Or.inl rfl) rfl rfl
theorem zmo_6_6 : zmok 6 6 (yX6_isDone, cX6_isDone, 1, (some FieldType.boolean), [], zk_6_6) (540, 538, 539, 110) = true := zmok_I rfl zpn_6 (Or.inl ⟨rfl, (zlw_2 (i := 194) rfl)⟩) (zlw_1 (i := 4) rfl) zpd_23 (Or.inr (zlw_2 (i := 192) rfl)) (Or.inr (Or.inr (zlw_2 (i := 193) rfl))) (Or.inl rfl) rfl rfl
theorem zmo_6_7 : zmok 6 7 (yX6_allFalls, cX6_allFalls, 3, (some FieldType.int), [], zk_6_7) (1018, 1016, 1017, 110) = true := zmok_I rfl zpn_6 (Or.inl ⟨rfl, (zlw_4 (i := 192) rfl)⟩) (zlw_1 (i := 4) rfl) zpd_5 (Or.inr (zlw_4 (i := 190) rfl)) (Or.inr (Or.inr (zlw_4 (i := 191) rfl))) (Or.inl rfl) rfl rfl
theorem zmo_6_8 : zmok 6 8 (yX6_heldBehind, cX6_heldBehind, 4, (some FieldType.int), [], zk_6_8) (693, 691, 692, 110) = true := zmok_I rfl zpn_6 (Or.inl ⟨rfl, (zlw_3 (i := 107) rfl)⟩) (zlw_1 (i := 4) rfl) zpd_9 (Or.inr (zlw_3 (i := 105) rfl)) (Or.inr (Or.inr (zlw_3 (i := 106) rfl))) (Or.inl rfl) rfl rfl
theorem zmo_6_9 : zmok 6 9 (yX6_mostHeld, cX6_mostHeld, 4, (some FieldType.int), [], zk_6_9) (1229, 1227, 1228, 110) = true := zmok_I rfl zpn_6 (Or.inl ⟨rfl, (zlw_5 (i := 163) rfl)⟩) (zlw_1 (i := 4) rfl) zpd_5 (Or.inr (zlw_5 (i := 161) rfl)) (Or.inr (Or.inr (zlw_5 (i := 162) rfl))) (Or.inl rfl) rfl rfl
theorem zmo_6_10 : zmok 6 10 (yX6_partEnd, cX6_partEnd, 4, (some FieldType.int), [], zk_6_10) (688, 686, 687, 110) = true := zmok_I rfl zpn_6 (Or.inl ⟨rfl, (zlw_3 (i := 102) rfl)⟩) (zlw_1 (i := 4) rfl) zpd_13 (Or.inr (zlw_3 (i := 100) rfl)) (Or.inr (Or.inr (zlw_3 (i := 101) rfl))) (Or.inl rfl) rfl rfl
theorem zmo_6_11 : zmok 6 11 (yX6_partCount, cX6_partCount, 3, (some FieldType.int), [], zk_6_11) (684, 682, 683, 110) = true := zmok_I rfl zpn_6 (Or.inl ⟨rfl, (zlw_3 (i := 98) rfl)⟩) (zlw_1 (i := 4) rfl) zpd_5 (Or.inr (zlw_3 (i := 96) rfl)) (Or.inr (Or.inr (zlw_3 (i := 97) rfl))) (Or.inl rfl) rfl rfl
theorem zmo_7_0 : zmok 7 0 (yX7_init, cX7_init, 1, (none : Option FieldType), [], zk_7_0) (393, 392, 0, 114) = true := zmok_I rfl zpn_7 (Or.inl ⟨rfl, (zlw_2 (i := 47) rfl)⟩) (zlw_1 (i := 8) rfl) zpd_0 (Or.inr (zlw_2 (i := 46) rfl)) (Or.inr (Or.inl rfl)) (Or.inr rfl) rfl rfl
theorem zmo_7_1 : zmok 7 1 (yX7_write, cX7_write, 3, (some FieldType.int), [], zk_7_1) (1272, 1270, 1271, 114) = true := zmok_I rfl zpn_7 (Or.inl ⟨rfl, (zlw_5 (i := 206) rfl)⟩) (zlw_1 (i := 8) rfl) zpd_30 (Or.inr (zlw_5 (i := 204) rfl)) (Or.inr (Or.inr (zlw_5 (i := 205) rfl))) (Or.inl rfl) rfl rfl
theorem zmo_7_2 : zmok 7 2 (yX7_byteAt, cX7_byteAt, 2, (some FieldType.int), [], zk_7_2) (732, 730, 731, 114) = true := zmok_I rfl zpn_7 (Or.inl ⟨rfl, (zlw_3 (i := 146) rfl)⟩) (zlw_1 (i := 8) rfl) zpd_13 (Or.inr (zlw_3 (i := 144) rfl)) (Or.inr (Or.inr (zlw_3 (i := 145) rfl))) (Or.inl rfl) rfl rfl
theorem zmo_7_3 : zmok 7 3 (yX7_putByte, cX7_putByte, 2, (none : Option FieldType), [], zk_7_3) (1283, 1282, 35, 114) = true := zmok_I rfl zpn_7 (Or.inl ⟨rfl, (zlw_5 (i := 217) rfl)⟩) (zlw_1 (i := 8) rfl) zpd_4 (Or.inr (zlw_5 (i := 216) rfl)) (Or.inr (Or.inr (zlw_0 (i := 35) rfl))) (Or.inl rfl) rfl rfl
theorem zmo_7_4 : zmok 7 4 (yX7_putName, cX7_putName, 5, (none : Option FieldType), [], zk_7_4) (1277, 1276, 34, 114) = true := zmok_I rfl zpn_7 (Or.inl ⟨rfl, (zlw_5 (i := 211) rfl)⟩) (zlw_1 (i := 8) rfl) zpd_31 (Or.inr (zlw_5 (i := 210) rfl)) (Or.inr (Or.inr (zlw_0 (i := 34) rfl))) (Or.inl rfl) rfl rfl
theorem zmo_7_5 : zmok 7 5 (yX7_putNumber, cX7_putNumber, 2, (none : Option FieldType), [], zk_7_5) (1290, 1289, 36, 114) = true := zmok_I rfl zpn_7 (Or.inl ⟨rfl, (zlw_5 (i := 224) rfl)⟩) (zlw_1 (i := 8) rfl) zpd_4 (Or.inr (zlw_5 (i := 223) rfl)) (Or.inr (Or.inr (zlw_0 (i := 36) rfl))) (Or.inl rfl) rfl rfl
theorem zmo_8_0 : zmok 8 0 (yX8_init, cX8_init, 1, (none : Option FieldType), [], zk_8_0) (136, 135, 0, 107) = true := zmok_I rfl zpn_8 (Or.inl ⟨rfl, (zlw_1 (i := 30) rfl)⟩) (zlw_1 (i := 1) rfl) zpd_0 (Or.inr (zlw_1 (i := 29) rfl)) (Or.inr (Or.inl rfl)) (Or.inr rfl) rfl rfl
theorem zmo_8_1 : zmok 8 1 (yX8_feed, cX8_feed, 6, (some FieldType.int), [], zk_8_1) (474, 472, 473, 107) = true := zmok_I rfl zpn_8 (Or.inl ⟨rfl, (zlw_2 (i := 128) rfl)⟩) (zlw_1 (i := 1) rfl) zpd_32 (Or.inr (zlw_2 (i := 126) rfl)) (Or.inr (Or.inr (zlw_2 (i := 127) rfl))) (Or.inl rfl) rfl rfl
theorem zmo_8_2 : zmok 8 2 (yX8_feedOne, cX8_feedOne, 3, (none : Option FieldType), [], zk_8_2) (478, 477, 0, 107) = true := zmok_I rfl zpn_8 (Or.inl ⟨rfl, (zlw_2 (i := 132) rfl)⟩) (zlw_1 (i := 1) rfl) zpd_4 (Or.inr (zlw_2 (i := 131) rfl)) (Or.inr (Or.inr (zlw_0 (i := 0) rfl))) (Or.inl rfl) rfl rfl
theorem zmo_8_3 : zmok 8 3 (yX8_end, cX8_end, 2, (some FieldType.boolean), [], zk_8_3) (482, 480, 481, 107) = true := zmok_I rfl zpn_8 (Or.inl ⟨rfl, (zlw_2 (i := 136) rfl)⟩) (zlw_1 (i := 1) rfl) zpd_3 (Or.inr (zlw_2 (i := 134) rfl)) (Or.inr (Or.inr (zlw_2 (i := 135) rfl))) (Or.inl rfl) rfl rfl
theorem zmo_8_4 : zmok 8 4 (yX8_machine, cX8_machine, 1, (some FieldType.int), [], zk_8_4) (773, 771, 772, 107) = true := zmok_I rfl zpn_8 (Or.inl ⟨rfl, (zlw_3 (i := 187) rfl)⟩) (zlw_1 (i := 1) rfl) zpd_5 (Or.inr (zlw_3 (i := 185) rfl)) (Or.inr (Or.inr (zlw_3 (i := 186) rfl))) (Or.inl rfl) rfl rfl
theorem zmo_8_5 : zmok 8 5 (yX8_fault, cX8_fault, 1, (some FieldType.int), [], zk_8_5) (486, 484, 485, 107) = true := zmok_I rfl zpn_8 (Or.inl ⟨rfl, (zlw_2 (i := 140) rfl)⟩) (zlw_1 (i := 1) rfl) zpd_5 (Or.inr (zlw_2 (i := 138) rfl)) (Or.inr (Or.inr (zlw_2 (i := 139) rfl))) (Or.inl rfl) rfl rfl
theorem zmo_8_6 : zmok 8 6 (yX8_thread, cX8_thread, 4, (some FieldType.int), [], zk_8_6) (992, 990, 991, 107) = true := zmok_I rfl zpn_8 (Or.inl ⟨rfl, (zlw_4 (i := 166) rfl)⟩) (zlw_1 (i := 1) rfl) zpd_9 (Or.inr (zlw_4 (i := 164) rfl)) (Or.inr (Or.inr (zlw_4 (i := 165) rfl))) (Or.inl rfl) rfl rfl
theorem zmo_8_7 : zmok 8 7 (yX8_leftOut, cX8_leftOut, 4, (some FieldType.int), [], zk_8_7) (1041, 1039, 1040, 107) = true := zmok_I rfl zpn_8 (Or.inl ⟨rfl, (zlw_4 (i := 215) rfl)⟩) (zlw_1 (i := 1) rfl) zpd_9 (Or.inr (zlw_4 (i := 213) rfl)) (Or.inr (Or.inr (zlw_4 (i := 214) rfl))) (Or.inl rfl) rfl rfl
theorem zmo_8_8 : zmok 8 8 (yX8_blocks, cX8_blocks, 4, (some FieldType.int), [], zk_8_8) (1048, 1046, 1047, 107) = true := zmok_I rfl zpn_8 (Or.inl ⟨rfl, (zlw_4 (i := 222) rfl)⟩) (zlw_1 (i := 1) rfl) zpd_9 (Or.inr (zlw_4 (i := 220) rfl)) (Or.inr (Or.inr (zlw_4 (i := 221) rfl))) (Or.inl rfl) rfl rfl
theorem zmo_8_9 : zmok 8 9 (yX8_fell, cX8_fell, 5, (some FieldType.int), [], zk_8_9) (1059, 1057, 1058, 107) = true := zmok_I rfl zpn_8 (Or.inl ⟨rfl, (zlw_4 (i := 233) rfl)⟩) (zlw_1 (i := 1) rfl) zpd_9 (Or.inr (zlw_4 (i := 231) rfl)) (Or.inr (Or.inr (zlw_4 (i := 232) rfl))) (Or.inl rfl) rfl rfl
theorem zmo_8_10 : zmok 8 10 (yX8_word, cX8_word, 2, (some FieldType.int), [], zk_8_10) (1067, 1065, 1066, 107) = true := zmok_I rfl zpn_8 (Or.inl ⟨rfl, (zlw_5 (i := 1) rfl)⟩) (zlw_1 (i := 1) rfl) zpd_13 (Or.inr (zlw_4 (i := 239) rfl)) (Or.inr (Or.inr (zlw_5 (i := 0) rfl))) (Or.inl rfl) rfl rfl
theorem zmo_8_11 : zmok 8 11 (yX8_sees, cX8_sees, 4, (some FieldType.int), [], zk_8_11) (1078, 1076, 1077, 107) = true := zmok_I rfl zpn_8 (Or.inl ⟨rfl, (zlw_5 (i := 12) rfl)⟩) (zlw_1 (i := 1) rfl) zpd_9 (Or.inr (zlw_5 (i := 10) rfl)) (Or.inr (Or.inr (zlw_5 (i := 11) rfl))) (Or.inl rfl) rfl rfl
theorem zmo_8_12 : zmok 8 12 (yX8_lock, cX8_lock, 4, (some FieldType.int), [], zk_8_12) (1086, 1084, 1085, 107) = true := zmok_I rfl zpn_8 (Or.inl ⟨rfl, (zlw_5 (i := 20) rfl)⟩) (zlw_1 (i := 1) rfl) zpd_9 (Or.inr (zlw_5 (i := 18) rfl)) (Or.inr (Or.inr (zlw_5 (i := 19) rfl))) (Or.inl rfl) rfl rfl
theorem zmo_8_13 : zmok 8 13 (yX8_term, cX8_term, 2, (some FieldType.int), [], zk_8_13) (1100, 1098, 1099, 107) = true := zmok_I rfl zpn_8 (Or.inl ⟨rfl, (zlw_5 (i := 34) rfl)⟩) (zlw_1 (i := 1) rfl) zpd_13 (Or.inr (zlw_5 (i := 32) rfl)) (Or.inr (Or.inr (zlw_5 (i := 33) rfl))) (Or.inl rfl) rfl rfl
theorem zmo_8_14 : zmok 8 14 (yX8_deed, cX8_deed, 6, (some FieldType.int), [], zk_8_14) (1108, 1106, 1107, 107) = true := zmok_I rfl zpn_8 (Or.inl ⟨rfl, (zlw_5 (i := 42) rfl)⟩) (zlw_1 (i := 1) rfl) zpd_18 (Or.inr (zlw_5 (i := 40) rfl)) (Or.inr (Or.inr (zlw_5 (i := 41) rfl))) (Or.inl rfl) rfl rfl
theorem zmo_8_15 : zmok 8 15 (yX8_step, cX8_step, 3, (some FieldType.int), [], zk_8_15) (1118, 1116, 1117, 107) = true := zmok_I rfl zpn_8 (Or.inl ⟨rfl, (zlw_5 (i := 52) rfl)⟩) (zlw_1 (i := 1) rfl) zpd_13 (Or.inr (zlw_5 (i := 50) rfl)) (Or.inr (Or.inr (zlw_5 (i := 51) rfl))) (Or.inl rfl) rfl rfl
theorem zmo_8_16 : zmok 8 16 (yX8_run, cX8_run, 2, (some FieldType.int), [], zk_8_16) (1141, 1139, 1140, 107) = true := zmok_I rfl zpn_8 (Or.inl ⟨rfl, (zlw_5 (i := 75) rfl)⟩) (zlw_1 (i := 1) rfl) zpd_13 (Or.inr (zlw_5 (i := 73) rfl)) (Or.inr (Or.inr (zlw_5 (i := 74) rfl))) (Or.inl rfl) rfl rfl
theorem zmo_8_17 : zmok 8 17 (yX8_chance, cX8_chance, 2, (some FieldType.int), [], zk_8_17) (1166, 1164, 1165, 107) = true := zmok_I rfl zpn_8 (Or.inl ⟨rfl, (zlw_5 (i := 100) rfl)⟩) (zlw_1 (i := 1) rfl) zpd_13 (Or.inr (zlw_5 (i := 98) rfl)) (Or.inr (Or.inr (zlw_5 (i := 99) rfl))) (Or.inl rfl) rfl rfl
theorem zmo_8_18 : zmok 8 18 (yX8_goOn, cX8_goOn, 5, (some FieldType.int), [], zk_8_18) (1149, 1148, 32, 107) = true := zmok_I rfl zpn_8 (Or.inl ⟨rfl, (zlw_5 (i := 83) rfl)⟩) (zlw_1 (i := 1) rfl) zpd_33 (Or.inr (zlw_5 (i := 82) rfl)) (Or.inr (Or.inr (zlw_0 (i := 32) rfl))) (Or.inl rfl) rfl rfl
theorem zmo_8_19 : zmok 8 19 (yX8_poke, cX8_poke, 4, (some FieldType.int), [], zk_8_19) (1173, 1171, 1172, 107) = true := zmok_I rfl zpn_8 (Or.inl ⟨rfl, (zlw_5 (i := 107) rfl)⟩) (zlw_1 (i := 1) rfl) zpd_9 (Or.inr (zlw_5 (i := 105) rfl)) (Or.inr (Or.inr (zlw_5 (i := 106) rfl))) (Or.inl rfl) rfl rfl
theorem zmo_8_20 : zmok 8 20 (yX8_tune, cX8_tune, 4, (some FieldType.int), [], zk_8_20) (1182, 1180, 1181, 107) = true := zmok_I rfl zpn_8 (Or.inl ⟨rfl, (zlw_5 (i := 116) rfl)⟩) (zlw_1 (i := 1) rfl) zpd_9 (Or.inr (zlw_5 (i := 114) rfl)) (Or.inr (Or.inr (zlw_5 (i := 115) rfl))) (Or.inl rfl) rfl rfl
theorem zmo_8_21 : zmok 8 21 (yX8_seed, cX8_seed, 3, (some FieldType.int), [], zk_8_21) (490, 488, 489, 107) = true := zmok_I rfl zpn_8 (Or.inl ⟨rfl, (zlw_2 (i := 144) rfl)⟩) (zlw_1 (i := 1) rfl) zpd_13 (Or.inr (zlw_2 (i := 142) rfl)) (Or.inr (Or.inr (zlw_2 (i := 143) rfl))) (Or.inl rfl) rfl rfl
theorem zmo_8_22 : zmok 8 22 (yX8_due, cX8_due, 2, (some FieldType.int), [], zk_8_22) (1192, 1190, 1191, 107) = true := zmok_I rfl zpn_8 (Or.inl ⟨rfl, (zlw_5 (i := 126) rfl)⟩) (zlw_1 (i := 1) rfl) zpd_13 (Or.inr (zlw_5 (i := 124) rfl)) (Or.inr (Or.inr (zlw_5 (i := 125) rfl))) (Or.inl rfl) rfl rfl
theorem zmo_8_23 : zmok 8 23 (yX8_quickest, cX8_quickest, 7, (some FieldType.int), [], zk_8_23) (1199, 1197, 1198, 107) = true := zmok_I rfl zpn_8 (Or.inl ⟨rfl, (zlw_5 (i := 133) rfl)⟩) (zlw_1 (i := 1) rfl) zpd_13 (Or.inr (zlw_5 (i := 131) rfl)) (Or.inr (Or.inr (zlw_5 (i := 132) rfl))) (Or.inl rfl) rfl rfl
theorem zmo_8_24 : zmok 8 24 (yX8_plain, cX8_plain, 1, (some FieldType.int), [], zk_8_24) (494, 492, 493, 107) = true := zmok_I rfl zpn_8 (Or.inl ⟨rfl, (zlw_2 (i := 148) rfl)⟩) (zlw_1 (i := 1) rfl) zpd_5 (Or.inr (zlw_2 (i := 146) rfl)) (Or.inr (Or.inr (zlw_2 (i := 147) rfl))) (Or.inl rfl) rfl rfl
theorem zmo_8_25 : zmok 8 25 (yX8_ticksAhead, cX8_ticksAhead, 6, (some FieldType.int), [], zk_8_25) (498, 497, 1, 107) = true := zmok_I rfl zpn_8 (Or.inl ⟨rfl, (zlw_2 (i := 152) rfl)⟩) (zlw_1 (i := 1) rfl) zpd_18 (Or.inr (zlw_2 (i := 151) rfl)) (Or.inr (Or.inr (zlw_0 (i := 1) rfl))) (Or.inl rfl) rfl rfl
theorem zmo_8_26 : zmok 8 26 (yX8_touches, cX8_touches, 5, (some FieldType.int), [], zk_8_26) (1206, 1204, 1205, 107) = true := zmok_I rfl zpn_8 (Or.inl ⟨rfl, (zlw_5 (i := 140) rfl)⟩) (zlw_1 (i := 1) rfl) zpd_9 (Or.inr (zlw_5 (i := 138) rfl)) (Or.inr (Or.inr (zlw_5 (i := 139) rfl))) (Or.inl rfl) rfl rfl
theorem zmo_8_27 : zmok 8 27 (yX8_rivals, cX8_rivals, 7, (some FieldType.int), [], zk_8_27) (1217, 1215, 1216, 107) = true := zmok_I rfl zpn_8 (Or.inl ⟨rfl, (zlw_5 (i := 151) rfl)⟩) (zlw_1 (i := 1) rfl) zpd_9 (Or.inr (zlw_5 (i := 149) rfl)) (Or.inr (Or.inr (zlw_5 (i := 150) rfl))) (Or.inl rfl) rfl rfl
theorem zmo_8_28 : zmok 8 28 (yX8_nest, cX8_nest, 2, (some FieldType.int), [], zk_8_28) (1225, 1223, 1224, 107) = true := zmok_I rfl zpn_8 (Or.inl ⟨rfl, (zlw_5 (i := 159) rfl)⟩) (zlw_1 (i := 1) rfl) zpd_13 (Or.inr (zlw_5 (i := 157) rfl)) (Or.inr (Or.inr (zlw_5 (i := 158) rfl))) (Or.inl rfl) rfl rfl
theorem zmo_8_29 : zmok 8 29 (yX8_parts, cX8_parts, 2, (some FieldType.int), [], zk_8_29) (1238, 1236, 1237, 107) = true := zmok_I rfl zpn_8 (Or.inl ⟨rfl, (zlw_5 (i := 172) rfl)⟩) (zlw_1 (i := 1) rfl) zpd_13 (Or.inr (zlw_5 (i := 170) rfl)) (Or.inr (Or.inr (zlw_5 (i := 171) rfl))) (Or.inl rfl) rfl rfl
theorem zmo_8_30 : zmok 8 30 (yX8_serial, cX8_serial, 2, (some FieldType.int), [], zk_8_30) (675, 673, 674, 107) = true := zmok_I rfl zpn_8 (Or.inl ⟨rfl, (zlw_3 (i := 89) rfl)⟩) (zlw_1 (i := 1) rfl) zpd_13 (Or.inr (zlw_3 (i := 87) rfl)) (Or.inr (Or.inr (zlw_3 (i := 88) rfl))) (Or.inl rfl) rfl rfl
theorem zmo_8_31 : zmok 8 31 (yX8_output, cX8_output, 4, (some FieldType.int), [], zk_8_31) (1246, 1244, 1245, 107) = true := zmok_I rfl zpn_8 (Or.inl ⟨rfl, (zlw_5 (i := 180) rfl)⟩) (zlw_1 (i := 1) rfl) zpd_9 (Or.inr (zlw_5 (i := 178) rfl)) (Or.inr (Or.inr (zlw_5 (i := 179) rfl))) (Or.inl rfl) rfl rfl
theorem zmo_8_32 : zmok 8 32 (yX8_log, cX8_log, 3, (some FieldType.int), [], zk_8_32) (1253, 1251, 1252, 107) = true := zmok_I rfl zpn_8 (Or.inl ⟨rfl, (zlw_5 (i := 187) rfl)⟩) (zlw_1 (i := 1) rfl) zpd_9 (Or.inr (zlw_5 (i := 185) rfl)) (Or.inr (Or.inr (zlw_5 (i := 186) rfl))) (Or.inl rfl) rfl rfl
theorem zmo_8_33 : zmok 8 33 (yX8_text, cX8_text, 2, (some FieldType.int), [], zk_8_33) (1268, 1266, 1267, 107) = true := zmok_I rfl zpn_8 (Or.inl ⟨rfl, (zlw_5 (i := 202) rfl)⟩) (zlw_1 (i := 1) rfl) zpd_13 (Or.inr (zlw_5 (i := 200) rfl)) (Or.inr (Or.inr (zlw_5 (i := 201) rfl))) (Or.inl rfl) rfl rfl
theorem zmo_8_34 : zmok 8 34 (yX8_octet, cX8_octet, 2, (some FieldType.int), [], zk_8_34) (728, 726, 727, 107) = true := zmok_I rfl zpn_8 (Or.inl ⟨rfl, (zlw_3 (i := 142) rfl)⟩) (zlw_1 (i := 1) rfl) zpd_13 (Or.inr (zlw_3 (i := 140) rfl)) (Or.inr (Or.inr (zlw_3 (i := 141) rfl))) (Or.inl rfl) rfl rfl
theorem zmo_8_35 : zmok 8 35 (yX8_image, cX8_image, 1, (none : Option FieldType), [], zk_8_35) (736, 734, 735, 107) = true := zmok_I rfl zpn_8 (Or.inl ⟨rfl, (zlw_3 (i := 150) rfl)⟩) (zlw_1 (i := 1) rfl) zpd_0 (Or.inr (zlw_3 (i := 148) rfl)) (Or.inr (Or.inr (zlw_3 (i := 149) rfl))) (Or.inl rfl) rfl rfl
theorem zmo_8_36 : zmok 8 36 (yX8_back, cX8_back, 1, (some FieldType.boolean), [], zk_8_36) (740, 738, 739, 107) = true := zmok_I rfl zpn_8 (Or.inl ⟨rfl, (zlw_3 (i := 154) rfl)⟩) (zlw_1 (i := 1) rfl) zpd_23 (Or.inr (zlw_3 (i := 152) rfl)) (Or.inr (Or.inr (zlw_3 (i := 153) rfl))) (Or.inl rfl) rfl rfl
theorem zmo_8_37 : zmok 8 37 (yX8_count, cX8_count, 2, (some FieldType.int), [], zk_8_37) (748, 746, 747, 107) = true := zmok_I rfl zpn_8 (Or.inl ⟨rfl, (zlw_3 (i := 162) rfl)⟩) (zlw_1 (i := 1) rfl) zpd_13 (Or.inr (zlw_3 (i := 160) rfl)) (Or.inr (Or.inr (zlw_3 (i := 161) rfl))) (Or.inl rfl) rfl rfl
theorem zmo_8_38 : zmok 8 38 (yX8_strandOf, cX8_strandOf, 2, (some (FieldType.object "ElidedLocks$Strand")), [], zk_8_38) (996, 995, 31, 107) = true := zmok_I rfl zpn_8 (Or.inl ⟨rfl, (zlw_4 (i := 170) rfl)⟩) (zlw_1 (i := 1) rfl) zpd_11 (Or.inr (zlw_4 (i := 169) rfl)) (Or.inr (Or.inr (zlw_0 (i := 31) rfl))) (Or.inl rfl) rfl rfl
theorem zmo_8_39 : zmok 8 39 (yX8_wordOf, cX8_wordOf, 1, (some FieldType.int), [], zk_8_39) (1070, 1069, 0, 107) = true := zmok_I rfl zpn_8 (Or.inl ⟨rfl, (zlw_5 (i := 4) rfl)⟩) (zlw_1 (i := 1) rfl) zpd_13 (Or.inl (zlw_5 (i := 3) rfl)) (Or.inl (zlw_5 (i := 3) rfl)) (Or.inl rfl) rfl rfl
theorem zmo_8_40 : zmok 8 40 (yX8_whatOfTwo, cX8_whatOfTwo, 1, (some FieldType.int), [], zk_8_40) (1051, 1050, 0, 107) = true := zmok_I rfl zpn_8 (Or.inl ⟨rfl, (zlw_4 (i := 225) rfl)⟩) (zlw_1 (i := 1) rfl) zpd_13 (Or.inl (zlw_4 (i := 224) rfl)) (Or.inl (zlw_4 (i := 224) rfl)) (Or.inl rfl) rfl rfl
theorem zmo_8_41 : zmok 8 41 (yX8_ticksOf, cX8_ticksOf, 1, (some FieldType.int), [], zk_8_41) (1144, 1143, 0, 107) = true := zmok_I rfl zpn_8 (Or.inl ⟨rfl, (zlw_5 (i := 78) rfl)⟩) (zlw_1 (i := 1) rfl) zpd_13 (Or.inl (zlw_5 (i := 77) rfl)) (Or.inl (zlw_5 (i := 77) rfl)) (Or.inl rfl) rfl rfl
theorem zmo_9_0 : zmok 9 0 (yX9_throwsIf, cX9_throwsIf, 3, (some FieldType.boolean), [], zk_9_0) (1485, 1484, 55, 116) = true := zmok_I rfl zpn_9 (Or.inl ⟨rfl, (zlw_6 (i := 179) rfl)⟩) (zlw_1 (i := 10) rfl) zpd_34 (Or.inr (zlw_6 (i := 178) rfl)) (Or.inr (Or.inr (zlw_0 (i := 55) rfl))) (Or.inl rfl) rfl rfl
theorem zmo_9_1 : zmok 9 1 (yX9_throwsIf, cX9_throwsIf, 3, (some FieldType.boolean), [], zk_9_1) (1485, 1484, 55, 116) = true := zmok_I rfl zpn_9 (Or.inl ⟨rfl, (zlw_6 (i := 179) rfl)⟩) (zlw_1 (i := 10) rfl) zpd_34 (Or.inr (zlw_6 (i := 178) rfl)) (Or.inr (Or.inr (zlw_0 (i := 55) rfl))) (Or.inl rfl) rfl rfl
theorem zmo_9_2 : zmok 9 2 (yX9_in, cX9_in, 3, (some FieldType.boolean), [], zk_9_2) (1496, 1495, 0, 116) = true := zmok_I rfl zpn_9 (Or.inl ⟨rfl, (zlw_6 (i := 190) rfl)⟩) (zlw_1 (i := 10) rfl) zpd_22 (Or.inl (zlw_6 (i := 189) rfl)) (Or.inl (zlw_6 (i := 189) rfl)) (Or.inl rfl) rfl rfl
theorem zmo_9_3 : zmok 9 3 (yX9_holds, cX9_holds, 2, (some FieldType.boolean), [], zk_9_3) (1540, 1539, 0, 116) = true := zmok_I rfl zpn_9 (Or.inl ⟨rfl, (zlw_6 (i := 234) rfl)⟩) (zlw_1 (i := 10) rfl) zpd_21 (Or.inl (zlw_6 (i := 233) rfl)) (Or.inl (zlw_6 (i := 233) rfl)) (Or.inl rfl) rfl rfl
theorem zmo_9_4 : zmok 9 4 (yX9_bits, cX9_bits, 3, (some FieldType.int), [], zk_9_4) (1572, 1571, 0, 116) = true := zmok_I rfl zpn_9 (Or.inl ⟨rfl, (zlw_7 (i := 26) rfl)⟩) (zlw_1 (i := 10) rfl) zpd_13 (Or.inl (zlw_7 (i := 25) rfl)) (Or.inl (zlw_7 (i := 25) rfl)) (Or.inl rfl) rfl rfl
theorem zmo_9_5 : zmok 9 5 (yX9_init, cX9_init, 2, (none : Option FieldType), [], zk_9_5) (1295, 1294, 0, 116) = true := zmok_I rfl zpn_9 (Or.inl ⟨rfl, (zlw_5 (i := 229) rfl)⟩) (zlw_1 (i := 10) rfl) zpd_0 (Or.inr (zlw_5 (i := 228) rfl)) (Or.inr (Or.inl rfl)) (Or.inr rfl) rfl rfl
theorem zmo_9_6 : zmok 9 6 (yX9_copies, cX9_copies, 3, (none : Option FieldType), [], zk_9_6) (1355, 1354, 0, 116) = true := zmok_I rfl zpn_9 (Or.inl ⟨rfl, (zlw_6 (i := 49) rfl)⟩) (zlw_1 (i := 10) rfl) zpd_35 (Or.inl (zlw_6 (i := 48) rfl)) (Or.inl (zlw_6 (i := 48) rfl)) (Or.inl rfl) rfl rfl
theorem zmo_9_7 : zmok 9 7 (yX9_image, cX9_image, 1, (none : Option FieldType), [], zk_9_7) (1352, 1350, 1351, 116) = true := zmok_I rfl zpn_9 (Or.inl ⟨rfl, (zlw_6 (i := 46) rfl)⟩) (zlw_1 (i := 10) rfl) zpd_0 (Or.inr (zlw_6 (i := 44) rfl)) (Or.inr (Or.inr (zlw_6 (i := 45) rfl))) (Or.inl rfl) rfl rfl
theorem zmo_9_8 : zmok 9 8 (yX9_back, cX9_back, 1, (some FieldType.boolean), [], zk_9_8) (1359, 1357, 1358, 116) = true := zmok_I rfl zpn_9 (Or.inl ⟨rfl, (zlw_6 (i := 53) rfl)⟩) (zlw_1 (i := 10) rfl) zpd_23 (Or.inr (zlw_6 (i := 51) rfl)) (Or.inr (Or.inr (zlw_6 (i := 52) rfl))) (Or.inl rfl) rfl rfl
theorem zmo_9_9 : zmok 9 9 (yX9_threads, cX9_threads, 1, (some FieldType.int), [], zk_9_9) (1410, 1409, 44, 116) = true := zmok_I rfl zpn_9 (Or.inl ⟨rfl, (zlw_6 (i := 104) rfl)⟩) (zlw_1 (i := 10) rfl) zpd_5 (Or.inr (zlw_6 (i := 103) rfl)) (Or.inr (Or.inr (zlw_0 (i := 44) rfl))) (Or.inl rfl) rfl rfl
theorem zmo_9_10 : zmok 9 10 (yX9_at, cX9_at, 2, (some FieldType.int), [], zk_9_10) (1413, 1412, 0, 116) = true := zmok_I rfl zpn_9 (Or.inl ⟨rfl, (zlw_6 (i := 107) rfl)⟩) (zlw_1 (i := 10) rfl) zpd_9 (Or.inl (zlw_6 (i := 106) rfl)) (Or.inl (zlw_6 (i := 106) rfl)) (Or.inl rfl) rfl rfl
theorem zmo_9_11 : zmok 9 11 (yX9_of, cX9_of, 3, (some FieldType.int), [], zk_9_11) (1433, 1432, 47, 116) = true := zmok_I rfl zpn_9 (Or.inl ⟨rfl, (zlw_6 (i := 127) rfl)⟩) (zlw_1 (i := 10) rfl) zpd_9 (Or.inr (zlw_6 (i := 126) rfl)) (Or.inr (Or.inr (zlw_0 (i := 47) rfl))) (Or.inl rfl) rfl rfl
theorem zmo_9_12 : zmok 9 12 (yX9_isDone, cX9_isDone, 2, (some FieldType.boolean), [], zk_9_12) (1500, 1499, 57, 116) = true := zmok_I rfl zpn_9 (Or.inl ⟨rfl, (zlw_6 (i := 194) rfl)⟩) (zlw_1 (i := 10) rfl) zpd_3 (Or.inr (zlw_6 (i := 193) rfl)) (Or.inr (Or.inr (zlw_0 (i := 57) rfl))) (Or.inl rfl) rfl rfl
theorem zmo_9_13 : zmok 9 13 (yX9_deedOf, cX9_deedOf, 4, (some FieldType.int), [], zk_9_13) (1509, 1508, 59, 116) = true := zmok_I rfl zpn_9 (Or.inl ⟨rfl, (zlw_6 (i := 203) rfl)⟩) (zlw_1 (i := 10) rfl) zpd_18 (Or.inr (zlw_6 (i := 202) rfl)) (Or.inr (Or.inr (zlw_0 (i := 59) rfl))) (Or.inl rfl) rfl rfl
theorem zmo_9_14 : zmok 9 14 (yX9_blockOf, cX9_blockOf, 2, (some FieldType.int), [], zk_9_14) (1525, 1524, 63, 116) = true := zmok_I rfl zpn_9 (Or.inl ⟨rfl, (zlw_6 (i := 219) rfl)⟩) (zlw_1 (i := 10) rfl) zpd_13 (Or.inr (zlw_6 (i := 218) rfl)) (Or.inr (Or.inr (zlw_0 (i := 63) rfl))) (Or.inl rfl) rfl rfl
theorem zmo_9_15 : zmok 9 15 (yX9_logs, cX9_logs, 5, (none : Option FieldType), [], zk_9_15) (1557, 1556, 70, 116) = true := zmok_I rfl zpn_9 (Or.inl ⟨rfl, (zlw_7 (i := 11) rfl)⟩) (zlw_1 (i := 10) rfl) zpd_2 (Or.inr (zlw_7 (i := 10) rfl)) (Or.inr (Or.inr (zlw_0 (i := 70) rfl))) (Or.inl rfl) rfl rfl
theorem zmo_9_16 : zmok 9 16 (yX9_ends, cX9_ends, 2, (none : Option FieldType), [], zk_9_16) (1553, 1552, 69, 116) = true := zmok_I rfl zpn_9 (Or.inl ⟨rfl, (zlw_7 (i := 7) rfl)⟩) (zlw_1 (i := 10) rfl) zpd_4 (Or.inr (zlw_7 (i := 6) rfl)) (Or.inr (Or.inr (zlw_0 (i := 69) rfl))) (Or.inl rfl) rfl rfl
theorem zmo_9_17 : zmok 9 17 (yX9_falls, cX9_falls, 4, (none : Option FieldType), [], zk_9_17) (1548, 1547, 68, 116) = true := zmok_I rfl zpn_9 (Or.inl ⟨rfl, (zlw_7 (i := 2) rfl)⟩) (zlw_1 (i := 10) rfl) zpd_29 (Or.inr (zlw_7 (i := 1) rfl)) (Or.inr (Or.inr (zlw_0 (i := 68) rfl))) (Or.inl rfl) rfl rfl
theorem zmo_9_18 : zmok 9 18 (yX9_itFalls, cX9_itFalls, 3, (none : Option FieldType), [], zk_9_18) (1544, 1543, 67, 116) = true := zmok_I rfl zpn_9 (Or.inl ⟨rfl, (zlw_6 (i := 238) rfl)⟩) (zlw_1 (i := 10) rfl) zpd_29 (Or.inr (zlw_6 (i := 237) rfl)) (Or.inr (Or.inr (zlw_0 (i := 67) rfl))) (Or.inl rfl) rfl rfl
theorem zmo_9_19 : zmok 9 19 (yX9_clashing, cX9_clashing, 7, (some FieldType.int), [], zk_9_19) (1529, 1528, 64, 116) = true := zmok_I rfl zpn_9 (Or.inl ⟨rfl, (zlw_6 (i := 223) rfl)⟩) (zlw_1 (i := 10) rfl) zpd_20 (Or.inr (zlw_6 (i := 222) rfl)) (Or.inr (Or.inr (zlw_0 (i := 64) rfl))) (Or.inl rfl) rfl rfl
theorem zmo_9_20 : zmok 9 20 (yX9_yields, cX9_yields, 5, (some FieldType.boolean), [], zk_9_20) (1537, 1536, 66, 116) = true := zmok_I rfl zpn_9 (Or.inl ⟨rfl, (zlw_6 (i := 231) rfl)⟩) (zlw_1 (i := 10) rfl) zpd_21 (Or.inr (zlw_6 (i := 230) rfl)) (Or.inr (Or.inr (zlw_0 (i := 66) rfl))) (Or.inl rfl) rfl rfl
theorem zmo_9_21 : zmok 9 21 (yX9_clears, cX9_clears, 4, (some FieldType.boolean), [], zk_9_21) (1533, 1532, 65, 116) = true := zmok_I rfl zpn_9 (Or.inl ⟨rfl, (zlw_6 (i := 227) rfl)⟩) (zlw_1 (i := 10) rfl) zpd_21 (Or.inr (zlw_6 (i := 226) rfl)) (Or.inr (Or.inr (zlw_0 (i := 65) rfl))) (Or.inl rfl) rfl rfl
theorem zmo_9_22 : zmok 9 22 (yX9_seen, cX9_seen, 3, (some FieldType.int), [], zk_9_22) (1561, 1560, 71, 116) = true := zmok_I rfl zpn_9 (Or.inl ⟨rfl, (zlw_7 (i := 15) rfl)⟩) (zlw_1 (i := 10) rfl) zpd_9 (Or.inr (zlw_7 (i := 14) rfl)) (Or.inr (Or.inr (zlw_0 (i := 71) rfl))) (Or.inl rfl) rfl rfl
theorem zmo_9_23 : zmok 9 23 (yX9_reads, cX9_reads, 3, (some FieldType.boolean), [], zk_9_23) (1521, 1520, 62, 116) = true := zmok_I rfl zpn_9 (Or.inl ⟨rfl, (zlw_6 (i := 215) rfl)⟩) (zlw_1 (i := 10) rfl) zpd_21 (Or.inr (zlw_6 (i := 214) rfl)) (Or.inr (Or.inr (zlw_0 (i := 62) rfl))) (Or.inl rfl) rfl rfl
theorem zmo_9_24 : zmok 9 24 (yX9_writes, cX9_writes, 6, (some FieldType.boolean), [], zk_9_24) (1569, 1568, 73, 116) = true := zmok_I rfl zpn_9 (Or.inl ⟨rfl, (zlw_7 (i := 23) rfl)⟩) (zlw_1 (i := 10) rfl) zpd_22 (Or.inr (zlw_7 (i := 22) rfl)) (Or.inr (Or.inr (zlw_0 (i := 73) rfl))) (Or.inl rfl) rfl rfl
theorem zmo_9_25 : zmok 9 25 (yX9_placeLeft, cX9_placeLeft, 5, (some FieldType.int), [], zk_9_25) (1565, 1564, 72, 116) = true := zmok_I rfl zpn_9 (Or.inl ⟨rfl, (zlw_7 (i := 19) rfl)⟩) (zlw_1 (i := 10) rfl) zpd_9 (Or.inr (zlw_7 (i := 18) rfl)) (Or.inr (Or.inr (zlw_0 (i := 72) rfl))) (Or.inl rfl) rfl rfl
theorem zmo_9_26 : zmok 9 26 (yX9_leavesOut, cX9_leavesOut, 3, (none : Option FieldType), [], zk_9_26) (1576, 1575, 74, 116) = true := zmok_I rfl zpn_9 (Or.inl ⟨rfl, (zlw_7 (i := 30) rfl)⟩) (zlw_1 (i := 10) rfl) zpd_29 (Or.inr (zlw_7 (i := 29) rfl)) (Or.inr (Or.inr (zlw_0 (i := 74) rfl))) (Or.inl rfl) rfl rfl
theorem zmo_9_27 : zmok 9 27 (yX9_beginsGuess, cX9_beginsGuess, 3, (none : Option FieldType), [], zk_9_27) (1580, 1579, 75, 116) = true := zmok_I rfl zpn_9 (Or.inl ⟨rfl, (zlw_7 (i := 34) rfl)⟩) (zlw_1 (i := 10) rfl) zpd_29 (Or.inr (zlw_7 (i := 33) rfl)) (Or.inr (Or.inr (zlw_0 (i := 75) rfl))) (Or.inl rfl) rfl rfl
theorem zmo_9_28 : zmok 9 28 (yX9_isTaken, cX9_isTaken, 3, (none : Option FieldType), [], zk_9_28) (1584, 1583, 76, 116) = true := zmok_I rfl zpn_9 (Or.inl ⟨rfl, (zlw_7 (i := 38) rfl)⟩) (zlw_1 (i := 10) rfl) zpd_29 (Or.inr (zlw_7 (i := 37) rfl)) (Or.inr (Or.inr (zlw_0 (i := 76) rfl))) (Or.inl rfl) rfl rfl
theorem zmo_9_29 : zmok 9 29 (yX9_takes, cX9_takes, 5, (some FieldType.boolean), [], zk_9_29) (1517, 1516, 61, 116) = true := zmok_I rfl zpn_9 (Or.inl ⟨rfl, (zlw_6 (i := 211) rfl)⟩) (zlw_1 (i := 10) rfl) zpd_21 (Or.inr (zlw_6 (i := 210) rfl)) (Or.inr (Or.inr (zlw_0 (i := 61) rfl))) (Or.inl rfl) rfl rfl
theorem zmo_9_30 : zmok 9 30 (yX9_isKept, cX9_isKept, 4, (none : Option FieldType), [], zk_9_30) (1593, 1592, 78, 116) = true := zmok_I rfl zpn_9 (Or.inl ⟨rfl, (zlw_7 (i := 47) rfl)⟩) (zlw_1 (i := 10) rfl) zpd_29 (Or.inr (zlw_7 (i := 46) rfl)) (Or.inr (Or.inr (zlw_0 (i := 78) rfl))) (Or.inl rfl) rfl rfl
theorem zmo_9_31 : zmok 9 31 (yX9_drops, cX9_drops, 5, (some FieldType.boolean), [], zk_9_31) (1589, 1588, 77, 116) = true := zmok_I rfl zpn_9 (Or.inl ⟨rfl, (zlw_7 (i := 43) rfl)⟩) (zlw_1 (i := 10) rfl) zpd_21 (Or.inr (zlw_7 (i := 42) rfl)) (Or.inr (Or.inr (zlw_0 (i := 77) rfl))) (Or.inl rfl) rfl rfl
theorem zmo_9_32 : zmok 9 32 (yX9_works, cX9_works, 3, (some FieldType.boolean), [], zk_9_32) (1597, 1596, 79, 116) = true := zmok_I rfl zpn_9 (Or.inl ⟨rfl, (zlw_7 (i := 51) rfl)⟩) (zlw_1 (i := 10) rfl) zpd_21 (Or.inr (zlw_7 (i := 50) rfl)) (Or.inr (Or.inr (zlw_0 (i := 79) rfl))) (Or.inl rfl) rfl rfl
theorem zmo_9_33 : zmok 9 33 (yX9_putsOut, cX9_putsOut, 2, (some FieldType.boolean), [], zk_9_33) (1601, 1600, 80, 116) = true := zmok_I rfl zpn_9 (Or.inl ⟨rfl, (zlw_7 (i := 55) rfl)⟩) (zlw_1 (i := 10) rfl) zpd_3 (Or.inr (zlw_7 (i := 54) rfl)) (Or.inr (Or.inr (zlw_0 (i := 80) rfl))) (Or.inl rfl) rfl rfl
theorem zmo_9_34 : zmok 9 34 (yX9_does, cX9_does, 4, (some FieldType.boolean), [], zk_9_34) (1513, 1512, 60, 116) = true := zmok_I rfl zpn_9 (Or.inl ⟨rfl, (zlw_6 (i := 207) rfl)⟩) (zlw_1 (i := 10) rfl) zpd_22 (Or.inr (zlw_6 (i := 206) rfl)) (Or.inr (Or.inr (zlw_0 (i := 60) rfl))) (Or.inl rfl) rfl rfl
theorem zmo_9_35 : zmok 9 35 (yX9_steps, cX9_steps, 4, (some FieldType.int), [], zk_9_35) (1505, 1504, 58, 116) = true := zmok_I rfl zpn_9 (Or.inl ⟨rfl, (zlw_6 (i := 199) rfl)⟩) (zlw_1 (i := 10) rfl) zpd_13 (Or.inr (zlw_6 (i := 198) rfl)) (Or.inr (Or.inr (zlw_0 (i := 58) rfl))) (Or.inl rfl) rfl rfl
theorem zmo_9_36 : zmok 9 36 (yX9_doneOnes, cX9_doneOnes, 3, (some FieldType.int), [], zk_9_36) (1617, 1616, 83, 116) = true := zmok_I rfl zpn_9 (Or.inl ⟨rfl, (zlw_7 (i := 71) rfl)⟩) (zlw_1 (i := 10) rfl) zpd_5 (Or.inr (zlw_7 (i := 70) rfl)) (Or.inr (Or.inr (zlw_0 (i := 83) rfl))) (Or.inl rfl) rfl rfl
theorem zmo_9_37 : zmok 9 37 (yX9_areAllDone, cX9_areAllDone, 1, (some FieldType.boolean), [], zk_9_37) (1613, 1612, 82, 116) = true := zmok_I rfl zpn_9 (Or.inl ⟨rfl, (zlw_7 (i := 67) rfl)⟩) (zlw_1 (i := 10) rfl) zpd_23 (Or.inr (zlw_7 (i := 66) rfl)) (Or.inr (Or.inr (zlw_0 (i := 82) rfl))) (Or.inl rfl) rfl rfl
theorem zmo_9_38 : zmok 9 38 (yX9_nextOne, cX9_nextOne, 3, (some FieldType.int), [], zk_9_38) (1630, 1629, 86, 116) = true := zmok_I rfl zpn_9 (Or.inl ⟨rfl, (zlw_7 (i := 84) rfl)⟩) (zlw_1 (i := 10) rfl) zpd_5 (Or.inr (zlw_7 (i := 83) rfl)) (Or.inr (Or.inr (zlw_0 (i := 86) rfl))) (Or.inl rfl) rfl rfl
theorem zmo_9_39 : zmok 9 39 (yX9_drawOf, cX9_drawOf, 2, (some FieldType.int), [], zk_9_39) (1625, 1624, 85, 116) = true := zmok_I rfl zpn_9 (Or.inl ⟨rfl, (zlw_7 (i := 79) rfl)⟩) (zlw_1 (i := 10) rfl) zpd_13 (Or.inr (zlw_7 (i := 78) rfl)) (Or.inr (Or.inr (zlw_0 (i := 85) rfl))) (Or.inl rfl) rfl rfl
theorem zmo_9_40 : zmok 9 40 (yX9_drawnOne, cX9_drawnOne, 3, (some FieldType.int), [], zk_9_40) (1621, 1620, 84, 116) = true := zmok_I rfl zpn_9 (Or.inl ⟨rfl, (zlw_7 (i := 75) rfl)⟩) (zlw_1 (i := 10) rfl) zpd_5 (Or.inr (zlw_7 (i := 74) rfl)) (Or.inr (Or.inr (zlw_0 (i := 84) rfl))) (Or.inl rfl) rfl rfl
theorem zmo_9_41 : zmok 9 41 (yX9_feed, cX9_feed, 7, (some FieldType.int), [], zk_9_41) (1363, 1361, 1362, 116) = true := zmok_I rfl zpn_9 (Or.inl ⟨rfl, (zlw_6 (i := 57) rfl)⟩) (zlw_1 (i := 10) rfl) zpd_32 (Or.inr (zlw_6 (i := 55) rfl)) (Or.inr (Or.inr (zlw_6 (i := 56) rfl))) (Or.inl rfl) rfl rfl
theorem zmo_9_42 : zmok 9 42 (yX9_end, cX9_end, 2, (some FieldType.boolean), [], zk_9_42) (1367, 1365, 1366, 116) = true := zmok_I rfl zpn_9 (Or.inl ⟨rfl, (zlw_6 (i := 61) rfl)⟩) (zlw_1 (i := 10) rfl) zpd_3 (Or.inr (zlw_6 (i := 59) rfl)) (Or.inr (Or.inr (zlw_6 (i := 60) rfl))) (Or.inl rfl) rfl rfl
theorem zmo_9_43 : zmok 9 43 (yX9_fault, cX9_fault, 1, (some FieldType.int), [], zk_9_43) (1371, 1369, 1370, 116) = true := zmok_I rfl zpn_9 (Or.inl ⟨rfl, (zlw_6 (i := 65) rfl)⟩) (zlw_1 (i := 10) rfl) zpd_5 (Or.inr (zlw_6 (i := 63) rfl)) (Or.inr (Or.inr (zlw_6 (i := 64) rfl))) (Or.inl rfl) rfl rfl
theorem zmo_9_44 : zmok 9 44 (yX9_isAt, cX9_isAt, 3, (some FieldType.boolean), [], zk_9_44) (1387, 1386, 39, 116) = true := zmok_I rfl zpn_9 (Or.inl ⟨rfl, (zlw_6 (i := 81) rfl)⟩) (zlw_1 (i := 10) rfl) zpd_21 (Or.inr (zlw_6 (i := 80) rfl)) (Or.inr (Or.inr (zlw_0 (i := 39) rfl))) (Or.inl rfl) rfl rfl
theorem zmo_9_45 : zmok 9 45 (yX9_blanks, cX9_blanks, 1, (none : Option FieldType), [], zk_9_45) (1383, 1382, 38, 116) = true := zmok_I rfl zpn_9 (Or.inl ⟨rfl, (zlw_6 (i := 77) rfl)⟩) (zlw_1 (i := 10) rfl) zpd_0 (Or.inr (zlw_6 (i := 76) rfl)) (Or.inr (Or.inr (zlw_0 (i := 38) rfl))) (Or.inl rfl) rfl rfl
theorem zmo_9_46 : zmok 9 46 (yX9_letters, cX9_letters, 1, (none : Option FieldType), [], zk_9_46) (1391, 1390, 40, 116) = true := zmok_I rfl zpn_9 (Or.inl ⟨rfl, (zlw_6 (i := 85) rfl)⟩) (zlw_1 (i := 10) rfl) zpd_0 (Or.inr (zlw_6 (i := 84) rfl)) (Or.inr (Or.inr (zlw_0 (i := 40) rfl))) (Or.inl rfl) rfl rfl
theorem zmo_9_47 : zmok 9 47 (yX9_isWord, cX9_isWord, 4, (some FieldType.boolean), [], zk_9_47) (1400, 1399, 42, 116) = true := zmok_I rfl zpn_9 (Or.inl ⟨rfl, (zlw_6 (i := 94) rfl)⟩) (zlw_1 (i := 10) rfl) zpd_36 (Or.inr (zlw_6 (i := 93) rfl)) (Or.inr (Or.inr (zlw_0 (i := 42) rfl))) (Or.inl rfl) rfl rfl
theorem zmo_9_48 : zmok 9 48 (yX9_passesSign, cX9_passesSign, 2, (some FieldType.boolean), [], zk_9_48) (1445, 1444, 50, 116) = true := zmok_I rfl zpn_9 (Or.inl ⟨rfl, (zlw_6 (i := 139) rfl)⟩) (zlw_1 (i := 10) rfl) zpd_3 (Or.inr (zlw_6 (i := 138) rfl)) (Or.inr (Or.inr (zlw_0 (i := 50) rfl))) (Or.inl rfl) rfl rfl
theorem zmo_9_49 : zmok 9 49 (yX9_number, cX9_number, 4, (some FieldType.int), [], zk_9_49) (1441, 1440, 49, 116) = true := zmok_I rfl zpn_9 (Or.inl ⟨rfl, (zlw_6 (i := 135) rfl)⟩) (zlw_1 (i := 10) rfl) zpd_9 (Or.inr (zlw_6 (i := 134) rfl)) (Or.inr (Or.inr (zlw_0 (i := 49) rfl))) (Or.inl rfl) rfl rfl
theorem zmo_9_50 : zmok 9 50 (yX9_readTo, cX9_readTo, 5, (some FieldType.boolean), [], zk_9_50) (1437, 1436, 48, 116) = true := zmok_I rfl zpn_9 (Or.inl ⟨rfl, (zlw_6 (i := 131) rfl)⟩) (zlw_1 (i := 10) rfl) zpd_22 (Or.inr (zlw_6 (i := 130) rfl)) (Or.inr (Or.inr (zlw_0 (i := 48) rfl))) (Or.inl rfl) rfl rfl
theorem zmo_9_51 : zmok 9 51 (yX9_kindHere, cX9_kindHere, 1, (some FieldType.int), [], zk_9_51) (1421, 1420, 46, 116) = true := zmok_I rfl zpn_9 (Or.inl ⟨rfl, (zlw_6 (i := 115) rfl)⟩) (zlw_1 (i := 10) rfl) zpd_5 (Or.inr (zlw_6 (i := 114) rfl)) (Or.inr (Or.inr (zlw_0 (i := 46) rfl))) (Or.inl rfl) rfl rfl
theorem zmo_9_52 : zmok 9 52 (yX9_readDeed, cX9_readDeed, 4, (some FieldType.boolean), [], zk_9_52) (1417, 1416, 45, 116) = true := zmok_I rfl zpn_9 (Or.inl ⟨rfl, (zlw_6 (i := 111) rfl)⟩) (zlw_1 (i := 10) rfl) zpd_3 (Or.inr (zlw_6 (i := 110) rfl)) (Or.inr (Or.inr (zlw_0 (i := 45) rfl))) (Or.inl rfl) rfl rfl
theorem zmo_9_53 : zmok 9 53 (yX9_readThread, cX9_readThread, 3, (some FieldType.boolean), [], zk_9_53) (1406, 1405, 43, 116) = true := zmok_I rfl zpn_9 (Or.inl ⟨rfl, (zlw_6 (i := 100) rfl)⟩) (zlw_1 (i := 10) rfl) zpd_23 (Or.inr (zlw_6 (i := 99) rfl)) (Or.inr (Or.inr (zlw_0 (i := 43) rfl))) (Or.inl rfl) rfl rfl
theorem zmo_9_54 : zmok 9 54 (yX9_readWordLine, cX9_readWordLine, 3, (some FieldType.boolean), [], zk_9_54) (1450, 1449, 51, 116) = true := zmok_I rfl zpn_9 (Or.inl ⟨rfl, (zlw_6 (i := 144) rfl)⟩) (zlw_1 (i := 10) rfl) zpd_23 (Or.inr (zlw_6 (i := 143) rfl)) (Or.inr (Or.inr (zlw_0 (i := 51) rfl))) (Or.inl rfl) rfl rfl
theorem zmo_9_55 : zmok 9 55 (yX9_readLock, cX9_readLock, 5, (some FieldType.boolean), [], zk_9_55) (1455, 1454, 52, 116) = true := zmok_I rfl zpn_9 (Or.inl ⟨rfl, (zlw_6 (i := 149) rfl)⟩) (zlw_1 (i := 10) rfl) zpd_23 (Or.inr (zlw_6 (i := 148) rfl)) (Or.inr (Or.inr (zlw_0 (i := 52) rfl))) (Or.inl rfl) rfl rfl
theorem zmo_9_56 : zmok 9 56 (yX9_readTrust, cX9_readTrust, 3, (some FieldType.boolean), [], zk_9_56) (1461, 1460, 53, 116) = true := zmok_I rfl zpn_9 (Or.inl ⟨rfl, (zlw_6 (i := 155) rfl)⟩) (zlw_1 (i := 10) rfl) zpd_23 (Or.inr (zlw_6 (i := 154) rfl)) (Or.inr (Or.inr (zlw_0 (i := 53) rfl))) (Or.inl rfl) rfl rfl
theorem zmo_9_57 : zmok 9 57 (yX9_leastOf, cX9_leastOf, 1, (some FieldType.int), [], zk_9_57) (1478, 1477, 0, 116) = true := zmok_I rfl zpn_9 (Or.inl ⟨rfl, (zlw_6 (i := 172) rfl)⟩) (zlw_1 (i := 10) rfl) zpd_13 (Or.inl (zlw_6 (i := 171) rfl)) (Or.inl (zlw_6 (i := 171) rfl)) (Or.inl rfl) rfl rfl
theorem zmo_9_58 : zmok 9 58 (yX9_mostOf, cX9_mostOf, 1, (some FieldType.int), [], zk_9_58) (1481, 1480, 0, 116) = true := zmok_I rfl zpn_9 (Or.inl ⟨rfl, (zlw_6 (i := 175) rfl)⟩) (zlw_1 (i := 10) rfl) zpd_13 (Or.inl (zlw_6 (i := 174) rfl)) (Or.inl (zlw_6 (i := 174) rfl)) (Or.inl rfl) rfl rfl
theorem zmo_9_59 : zmok 9 59 (yX9_termHere, cX9_termHere, 1, (some FieldType.int), [], zk_9_59) (1468, 1467, 54, 116) = true := zmok_I rfl zpn_9 (Or.inl ⟨rfl, (zlw_6 (i := 162) rfl)⟩) (zlw_1 (i := 10) rfl) zpd_5 (Or.inr (zlw_6 (i := 161) rfl)) (Or.inr (Or.inr (zlw_0 (i := 54) rfl))) (Or.inl rfl) rfl rfl
theorem zmo_9_60 : zmok 9 60 (yX9_readLine, cX9_readLine, 2, (some FieldType.boolean), [], zk_9_60) (1395, 1394, 41, 116) = true := zmok_I rfl zpn_9 (Or.inl ⟨rfl, (zlw_6 (i := 89) rfl)⟩) (zlw_1 (i := 10) rfl) zpd_23 (Or.inr (zlw_6 (i := 88) rfl)) (Or.inr (Or.inr (zlw_0 (i := 41) rfl))) (Or.inl rfl) rfl rfl
theorem zmo_9_61 : zmok 9 61 (yX9_readText, cX9_readText, 2, (some FieldType.boolean), [], zk_9_61) (1379, 1378, 37, 116) = true := zmok_I rfl zpn_9 (Or.inl ⟨rfl, (zlw_6 (i := 73) rfl)⟩) (zlw_1 (i := 10) rfl) zpd_23 (Or.inr (zlw_6 (i := 72) rfl)) (Or.inr (Or.inr (zlw_0 (i := 37) rfl))) (Or.inl rfl) rfl rfl
theorem zmo_9_62 : zmok 9 62 (yX9_machine, cX9_machine, 2, (some FieldType.int), [], zk_9_62) (1375, 1373, 1374, 116) = true := zmok_I rfl zpn_9 (Or.inl ⟨rfl, (zlw_6 (i := 69) rfl)⟩) (zlw_1 (i := 10) rfl) zpd_5 (Or.inr (zlw_6 (i := 67) rfl)) (Or.inr (Or.inr (zlw_6 (i := 68) rfl))) (Or.inl rfl) rfl rfl
theorem zmo_9_63 : zmok 9 63 (yX9_noThread, cX9_noThread, 2, (some FieldType.boolean), [], zk_9_63) (1493, 1492, 56, 116) = true := zmok_I rfl zpn_9 (Or.inl ⟨rfl, (zlw_6 (i := 187) rfl)⟩) (zlw_1 (i := 10) rfl) zpd_3 (Or.inr (zlw_6 (i := 186) rfl)) (Or.inr (Or.inr (zlw_0 (i := 56) rfl))) (Or.inl rfl) rfl rfl
theorem zmo_9_64 : zmok 9 64 (yX9_step, cX9_step, 2, (some FieldType.int), [], zk_9_64) (1489, 1487, 1488, 116) = true := zmok_I rfl zpn_9 (Or.inl ⟨rfl, (zlw_6 (i := 183) rfl)⟩) (zlw_1 (i := 10) rfl) zpd_13 (Or.inr (zlw_6 (i := 181) rfl)) (Or.inr (Or.inr (zlw_6 (i := 182) rfl))) (Or.inl rfl) rfl rfl
theorem zmo_9_65 : zmok 9 65 (yX9_goes, cX9_goes, 5, (some FieldType.int), [], zk_9_65) (1609, 1608, 81, 116) = true := zmok_I rfl zpn_9 (Or.inl ⟨rfl, (zlw_7 (i := 63) rfl)⟩) (zlw_1 (i := 10) rfl) zpd_33 (Or.inr (zlw_7 (i := 62) rfl)) (Or.inr (Or.inr (zlw_0 (i := 81) rfl))) (Or.inl rfl) rfl rfl
theorem zmo_9_66 : zmok 9 66 (yX9_run, cX9_run, 2, (some FieldType.int), [], zk_9_66) (1605, 1603, 1604, 116) = true := zmok_I rfl zpn_9 (Or.inl ⟨rfl, (zlw_7 (i := 59) rfl)⟩) (zlw_1 (i := 10) rfl) zpd_13 (Or.inr (zlw_7 (i := 57) rfl)) (Or.inr (Or.inr (zlw_7 (i := 58) rfl))) (Or.inl rfl) rfl rfl
theorem zmo_9_67 : zmok 9 67 (yX9_chance, cX9_chance, 2, (some FieldType.int), [], zk_9_67) (1634, 1632, 1633, 116) = true := zmok_I rfl zpn_9 (Or.inl ⟨rfl, (zlw_7 (i := 88) rfl)⟩) (zlw_1 (i := 10) rfl) zpd_13 (Or.inr (zlw_7 (i := 86) rfl)) (Or.inr (Or.inr (zlw_7 (i := 87) rfl))) (Or.inl rfl) rfl rfl
theorem zmo_9_68 : zmok 9 68 (yX9_poke, cX9_poke, 5, (some FieldType.int), [], zk_9_68) (1638, 1636, 1637, 116) = true := zmok_I rfl zpn_9 (Or.inl ⟨rfl, (zlw_7 (i := 92) rfl)⟩) (zlw_1 (i := 10) rfl) zpd_9 (Or.inr (zlw_7 (i := 90) rfl)) (Or.inr (Or.inr (zlw_7 (i := 91) rfl))) (Or.inl rfl) rfl rfl
theorem zmo_9_69 : zmok 9 69 (yX9_tune, cX9_tune, 4, (some FieldType.int), [], zk_9_69) (1642, 1640, 1641, 116) = true := zmok_I rfl zpn_9 (Or.inl ⟨rfl, (zlw_7 (i := 96) rfl)⟩) (zlw_1 (i := 10) rfl) zpd_9 (Or.inr (zlw_7 (i := 94) rfl)) (Or.inr (Or.inr (zlw_7 (i := 95) rfl))) (Or.inl rfl) rfl rfl
theorem zmo_9_70 : zmok 9 70 (yX9_seed, cX9_seed, 3, (some FieldType.int), [], zk_9_70) (1646, 1644, 1645, 116) = true := zmok_I rfl zpn_9 (Or.inl ⟨rfl, (zlw_7 (i := 100) rfl)⟩) (zlw_1 (i := 10) rfl) zpd_13 (Or.inr (zlw_7 (i := 98) rfl)) (Or.inr (Or.inr (zlw_7 (i := 99) rfl))) (Or.inl rfl) rfl rfl
theorem zmo_9_71 : zmok 9 71 (yX9_fellOf, cX9_fellOf, 4, (some FieldType.int), [], zk_9_71) (1654, 1653, 87, 116) = true := zmok_I rfl zpn_9 (Or.inl ⟨rfl, (zlw_7 (i := 108) rfl)⟩) (zlw_1 (i := 10) rfl) zpd_13 (Or.inr (zlw_7 (i := 107) rfl)) (Or.inr (Or.inr (zlw_0 (i := 87) rfl))) (Or.inl rfl) rfl rfl
theorem zmo_9_72 : zmok 9 72 (yX9_thread, cX9_thread, 3, (some FieldType.int), [], zk_9_72) (1650, 1648, 1649, 116) = true := zmok_I rfl zpn_9 (Or.inl ⟨rfl, (zlw_7 (i := 104) rfl)⟩) (zlw_1 (i := 10) rfl) zpd_9 (Or.inr (zlw_7 (i := 102) rfl)) (Or.inr (Or.inr (zlw_7 (i := 103) rfl))) (Or.inl rfl) rfl rfl
theorem zmo_9_73 : zmok 9 73 (yX9_leftOut, cX9_leftOut, 3, (some FieldType.int), [], zk_9_73) (1658, 1656, 1657, 116) = true := zmok_I rfl zpn_9 (Or.inl ⟨rfl, (zlw_7 (i := 112) rfl)⟩) (zlw_1 (i := 10) rfl) zpd_9 (Or.inr (zlw_7 (i := 110) rfl)) (Or.inr (Or.inr (zlw_7 (i := 111) rfl))) (Or.inl rfl) rfl rfl
theorem zmo_9_74 : zmok 9 74 (yX9_blocks, cX9_blocks, 3, (some FieldType.int), [], zk_9_74) (1662, 1660, 1661, 116) = true := zmok_I rfl zpn_9 (Or.inl ⟨rfl, (zlw_7 (i := 116) rfl)⟩) (zlw_1 (i := 10) rfl) zpd_9 (Or.inr (zlw_7 (i := 114) rfl)) (Or.inr (Or.inr (zlw_7 (i := 115) rfl))) (Or.inl rfl) rfl rfl
theorem zmo_9_75 : zmok 9 75 (yX9_fell, cX9_fell, 5, (some FieldType.int), [], zk_9_75) (1666, 1664, 1665, 116) = true := zmok_I rfl zpn_9 (Or.inl ⟨rfl, (zlw_7 (i := 120) rfl)⟩) (zlw_1 (i := 10) rfl) zpd_9 (Or.inr (zlw_7 (i := 118) rfl)) (Or.inr (Or.inr (zlw_7 (i := 119) rfl))) (Or.inl rfl) rfl rfl
theorem zmo_9_76 : zmok 9 76 (yX9_noWord, cX9_noWord, 2, (some FieldType.boolean), [], zk_9_76) (1674, 1673, 88, 116) = true := zmok_I rfl zpn_9 (Or.inl ⟨rfl, (zlw_7 (i := 128) rfl)⟩) (zlw_1 (i := 10) rfl) zpd_3 (Or.inr (zlw_7 (i := 127) rfl)) (Or.inr (Or.inr (zlw_0 (i := 88) rfl))) (Or.inl rfl) rfl rfl
theorem zmo_9_77 : zmok 9 77 (yX9_word, cX9_word, 2, (some FieldType.int), [], zk_9_77) (1670, 1668, 1669, 116) = true := zmok_I rfl zpn_9 (Or.inl ⟨rfl, (zlw_7 (i := 124) rfl)⟩) (zlw_1 (i := 10) rfl) zpd_13 (Or.inr (zlw_7 (i := 122) rfl)) (Or.inr (Or.inr (zlw_7 (i := 123) rfl))) (Or.inl rfl) rfl rfl
theorem zmo_9_78 : zmok 9 78 (yX9_sees, cX9_sees, 3, (some FieldType.int), [], zk_9_78) (1678, 1676, 1677, 116) = true := zmok_I rfl zpn_9 (Or.inl ⟨rfl, (zlw_7 (i := 132) rfl)⟩) (zlw_1 (i := 10) rfl) zpd_9 (Or.inr (zlw_7 (i := 130) rfl)) (Or.inr (Or.inr (zlw_7 (i := 131) rfl))) (Or.inl rfl) rfl rfl
theorem zmo_9_79 : zmok 9 79 (yX9_leavers, cX9_leavers, 4, (some FieldType.int), [], zk_9_79) (1686, 1685, 89, 116) = true := zmok_I rfl zpn_9 (Or.inl ⟨rfl, (zlw_7 (i := 140) rfl)⟩) (zlw_1 (i := 10) rfl) zpd_13 (Or.inr (zlw_7 (i := 139) rfl)) (Or.inr (Or.inr (zlw_0 (i := 89) rfl))) (Or.inl rfl) rfl rfl
theorem zmo_9_80 : zmok 9 80 (yX9_lock, cX9_lock, 3, (some FieldType.int), [], zk_9_80) (1682, 1680, 1681, 116) = true := zmok_I rfl zpn_9 (Or.inl ⟨rfl, (zlw_7 (i := 136) rfl)⟩) (zlw_1 (i := 10) rfl) zpd_9 (Or.inr (zlw_7 (i := 134) rfl)) (Or.inr (Or.inr (zlw_7 (i := 135) rfl))) (Or.inl rfl) rfl rfl
theorem zmo_9_81 : zmok 9 81 (yX9_term, cX9_term, 2, (some FieldType.int), [], zk_9_81) (1690, 1688, 1689, 116) = true := zmok_I rfl zpn_9 (Or.inl ⟨rfl, (zlw_7 (i := 144) rfl)⟩) (zlw_1 (i := 10) rfl) zpd_13 (Or.inr (zlw_7 (i := 142) rfl)) (Or.inr (Or.inr (zlw_7 (i := 143) rfl))) (Or.inl rfl) rfl rfl
theorem zmo_9_82 : zmok 9 82 (yX9_deed, cX9_deed, 4, (some FieldType.int), [], zk_9_82) (1694, 1692, 1693, 116) = true := zmok_I rfl zpn_9 (Or.inl ⟨rfl, (zlw_7 (i := 148) rfl)⟩) (zlw_1 (i := 10) rfl) zpd_18 (Or.inr (zlw_7 (i := 146) rfl)) (Or.inr (Or.inr (zlw_7 (i := 147) rfl))) (Or.inl rfl) rfl rfl
theorem zmo_9_83 : zmok 9 83 (yX9_output, cX9_output, 3, (some FieldType.int), [], zk_9_83) (1698, 1696, 1697, 116) = true := zmok_I rfl zpn_9 (Or.inl ⟨rfl, (zlw_7 (i := 152) rfl)⟩) (zlw_1 (i := 10) rfl) zpd_9 (Or.inr (zlw_7 (i := 150) rfl)) (Or.inr (Or.inr (zlw_7 (i := 151) rfl))) (Or.inl rfl) rfl rfl
theorem zmo_9_84 : zmok 9 84 (yX9_log, cX9_log, 3, (some FieldType.int), [], zk_9_84) (1702, 1700, 1701, 116) = true := zmok_I rfl zpn_9 (Or.inl ⟨rfl, (zlw_7 (i := 156) rfl)⟩) (zlw_1 (i := 10) rfl) zpd_9 (Or.inr (zlw_7 (i := 154) rfl)) (Or.inr (Or.inr (zlw_7 (i := 155) rfl))) (Or.inl rfl) rfl rfl
theorem zmo_9_85 : zmok 9 85 (yX9_guessing, cX9_guessing, 3, (some FieldType.int), [], zk_9_85) (1710, 1709, 90, 116) = true := zmok_I rfl zpn_9 (Or.inl ⟨rfl, (zlw_7 (i := 164) rfl)⟩) (zlw_1 (i := 10) rfl) zpd_5 (Or.inr (zlw_7 (i := 163) rfl)) (Or.inr (Or.inr (zlw_0 (i := 90) rfl))) (Or.inl rfl) rfl rfl
theorem zmo_9_86 : zmok 9 86 (yX9_keptAll, cX9_keptAll, 3, (some FieldType.int), [], zk_9_86) (1714, 1713, 91, 116) = true := zmok_I rfl zpn_9 (Or.inl ⟨rfl, (zlw_7 (i := 168) rfl)⟩) (zlw_1 (i := 10) rfl) zpd_5 (Or.inr (zlw_7 (i := 167) rfl)) (Or.inr (Or.inr (zlw_0 (i := 91) rfl))) (Or.inl rfl) rfl rfl
theorem zmo_9_87 : zmok 9 87 (yX9_heldLocks, cX9_heldLocks, 3, (some FieldType.int), [], zk_9_87) (1718, 1717, 92, 116) = true := zmok_I rfl zpn_9 (Or.inl ⟨rfl, (zlw_7 (i := 172) rfl)⟩) (zlw_1 (i := 10) rfl) zpd_5 (Or.inr (zlw_7 (i := 171) rfl)) (Or.inr (Or.inr (zlw_0 (i := 92) rfl))) (Or.inl rfl) rfl rfl
theorem zmo_9_88 : zmok 9 88 (yX9_count, cX9_count, 2, (some FieldType.int), [], zk_9_88) (1706, 1704, 1705, 116) = true := zmok_I rfl zpn_9 (Or.inl ⟨rfl, (zlw_7 (i := 160) rfl)⟩) (zlw_1 (i := 10) rfl) zpd_13 (Or.inr (zlw_7 (i := 158) rfl)) (Or.inr (Or.inr (zlw_7 (i := 159) rfl))) (Or.inl rfl) rfl rfl
theorem zmo_9_89 : zmok 9 89 (yX9_dueOf, cX9_dueOf, 3, (some FieldType.int), [], zk_9_89) (1726, 1725, 93, 116) = true := zmok_I rfl zpn_9 (Or.inl ⟨rfl, (zlw_7 (i := 180) rfl)⟩) (zlw_1 (i := 10) rfl) zpd_13 (Or.inr (zlw_7 (i := 179) rfl)) (Or.inr (Or.inr (zlw_0 (i := 93) rfl))) (Or.inl rfl) rfl rfl
theorem zmo_9_90 : zmok 9 90 (yX9_due, cX9_due, 3, (some FieldType.int), [], zk_9_90) (1722, 1720, 1721, 116) = true := zmok_I rfl zpn_9 (Or.inl ⟨rfl, (zlw_7 (i := 176) rfl)⟩) (zlw_1 (i := 10) rfl) zpd_13 (Or.inr (zlw_7 (i := 174) rfl)) (Or.inr (Or.inr (zlw_7 (i := 175) rfl))) (Or.inl rfl) rfl rfl
theorem zmo_9_91 : zmok 9 91 (yX9_dueBy, cX9_dueBy, 3, (some FieldType.int), [], zk_9_91) (1734, 1733, 94, 116) = true := zmok_I rfl zpn_9 (Or.inl ⟨rfl, (zlw_7 (i := 188) rfl)⟩) (zlw_1 (i := 10) rfl) zpd_13 (Or.inr (zlw_7 (i := 187) rfl)) (Or.inr (Or.inr (zlw_0 (i := 94) rfl))) (Or.inl rfl) rfl rfl
theorem zmo_9_92 : zmok 9 92 (yX9_quickest, cX9_quickest, 6, (some FieldType.int), [], zk_9_92) (1730, 1728, 1729, 116) = true := zmok_I rfl zpn_9 (Or.inl ⟨rfl, (zlw_7 (i := 184) rfl)⟩) (zlw_1 (i := 10) rfl) zpd_13 (Or.inr (zlw_7 (i := 182) rfl)) (Or.inr (Or.inr (zlw_7 (i := 183) rfl))) (Or.inl rfl) rfl rfl
theorem zmo_9_93 : zmok 9 93 (yX9_plain, cX9_plain, 1, (some FieldType.int), [], zk_9_93) (1738, 1736, 1737, 116) = true := zmok_I rfl zpn_9 (Or.inl ⟨rfl, (zlw_7 (i := 192) rfl)⟩) (zlw_1 (i := 10) rfl) zpd_5 (Or.inr (zlw_7 (i := 190) rfl)) (Or.inr (Or.inr (zlw_7 (i := 191) rfl))) (Or.inl rfl) rfl rfl
theorem zmo_9_94 : zmok 9 94 (yX9_touched, cX9_touched, 9, (some FieldType.int), [], zk_9_94) (1746, 1745, 95, 116) = true := zmok_I rfl zpn_9 (Or.inl ⟨rfl, (zlw_7 (i := 200) rfl)⟩) (zlw_1 (i := 10) rfl) zpd_37 (Or.inr (zlw_7 (i := 199) rfl)) (Or.inr (Or.inr (zlw_0 (i := 95) rfl))) (Or.inl rfl) rfl rfl
theorem zmo_9_95 : zmok 9 95 (yX9_touches, cX9_touches, 3, (some FieldType.int), [], zk_9_95) (1742, 1740, 1741, 116) = true := zmok_I rfl zpn_9 (Or.inl ⟨rfl, (zlw_7 (i := 196) rfl)⟩) (zlw_1 (i := 10) rfl) zpd_9 (Or.inr (zlw_7 (i := 194) rfl)) (Or.inr (Or.inr (zlw_7 (i := 195) rfl))) (Or.inl rfl) rfl rfl
theorem zmo_9_96 : zmok 9 96 (yX9_rivals, cX9_rivals, 3, (some FieldType.int), [], zk_9_96) (1750, 1748, 1749, 116) = true := zmok_I rfl zpn_9 (Or.inl ⟨rfl, (zlw_7 (i := 204) rfl)⟩) (zlw_1 (i := 10) rfl) zpd_9 (Or.inr (zlw_7 (i := 202) rfl)) (Or.inr (Or.inr (zlw_7 (i := 203) rfl))) (Or.inl rfl) rfl rfl
theorem zmo_9_97 : zmok 9 97 (yX9_heldBehind, cX9_heldBehind, 6, (some FieldType.int), [], zk_9_97) (1758, 1757, 96, 116) = true := zmok_I rfl zpn_9 (Or.inl ⟨rfl, (zlw_7 (i := 212) rfl)⟩) (zlw_1 (i := 10) rfl) zpd_18 (Or.inr (zlw_7 (i := 211) rfl)) (Or.inr (Or.inr (zlw_0 (i := 96) rfl))) (Or.inl rfl) rfl rfl
theorem zmo_9_98 : zmok 9 98 (yX9_nest, cX9_nest, 5, (some FieldType.int), [], zk_9_98) (1754, 1752, 1753, 116) = true := zmok_I rfl zpn_9 (Or.inl ⟨rfl, (zlw_7 (i := 208) rfl)⟩) (zlw_1 (i := 10) rfl) zpd_13 (Or.inr (zlw_7 (i := 206) rfl)) (Or.inr (Or.inr (zlw_7 (i := 207) rfl))) (Or.inl rfl) rfl rfl
theorem zmo_9_99 : zmok 9 99 (yX9_behindPart, cX9_behindPart, 5, (some FieldType.int), [], zk_9_99) (1770, 1769, 98, 116) = true := zmok_I rfl zpn_9 (Or.inl ⟨rfl, (zlw_7 (i := 224) rfl)⟩) (zlw_1 (i := 10) rfl) zpd_9 (Or.inr (zlw_7 (i := 223) rfl)) (Or.inr (Or.inr (zlw_0 (i := 98) rfl))) (Or.inl rfl) rfl rfl
theorem zmo_9_100 : zmok 9 100 (yX9_partsOf, cX9_partsOf, 4, (some FieldType.int), [], zk_9_100) (1766, 1765, 97, 116) = true := zmok_I rfl zpn_9 (Or.inl ⟨rfl, (zlw_7 (i := 220) rfl)⟩) (zlw_1 (i := 10) rfl) zpd_13 (Or.inr (zlw_7 (i := 219) rfl)) (Or.inr (Or.inr (zlw_0 (i := 97) rfl))) (Or.inl rfl) rfl rfl
theorem zmo_9_101 : zmok 9 101 (yX9_parts, cX9_parts, 2, (some FieldType.int), [], zk_9_101) (1762, 1760, 1761, 116) = true := zmok_I rfl zpn_9 (Or.inl ⟨rfl, (zlw_7 (i := 216) rfl)⟩) (zlw_1 (i := 10) rfl) zpd_13 (Or.inr (zlw_7 (i := 214) rfl)) (Or.inr (Or.inr (zlw_7 (i := 215) rfl))) (Or.inl rfl) rfl rfl
theorem zmo_9_102 : zmok 9 102 (yX9_doesDeed, cX9_doesDeed, 6, (some FieldType.boolean), [], zk_9_102) (1786, 1785, 101, 116) = true := zmok_I rfl zpn_9 (Or.inl ⟨rfl, (zlw_8 (i := 0) rfl)⟩) (zlw_1 (i := 10) rfl) zpd_38 (Or.inr (zlw_7 (i := 239) rfl)) (Or.inr (Or.inr (zlw_0 (i := 101) rfl))) (Or.inl rfl) rfl rfl
theorem zmo_9_103 : zmok 9 103 (yX9_putsWhole, cX9_putsWhole, 4, (none : Option FieldType), [], zk_9_103) (1790, 1789, 102, 116) = true := zmok_I rfl zpn_9 (Or.inl ⟨rfl, (zlw_8 (i := 4) rfl)⟩) (zlw_1 (i := 10) rfl) zpd_29 (Or.inr (zlw_8 (i := 3) rfl)) (Or.inr (Or.inr (zlw_0 (i := 102) rfl))) (Or.inl rfl) rfl rfl
theorem zmo_9_104 : zmok 9 104 (yX9_isAsNow, cX9_isAsNow, 4, (some FieldType.boolean), [], zk_9_104) (1782, 1781, 100, 116) = true := zmok_I rfl zpn_9 (Or.inl ⟨rfl, (zlw_7 (i := 236) rfl)⟩) (zlw_1 (i := 10) rfl) zpd_3 (Or.inr (zlw_7 (i := 235) rfl)) (Or.inr (Or.inr (zlw_0 (i := 100) rfl))) (Or.inl rfl) rfl rfl
theorem zmo_9_105 : zmok 9 105 (yX9_orders, cX9_orders, 9, (some FieldType.boolean), [], zk_9_105) (1778, 1777, 99, 116) = true := zmok_I rfl zpn_9 (Or.inl ⟨rfl, (zlw_7 (i := 232) rfl)⟩) (zlw_1 (i := 10) rfl) zpd_21 (Or.inr (zlw_7 (i := 231) rfl)) (Or.inr (Or.inr (zlw_0 (i := 99) rfl))) (Or.inl rfl) rfl rfl
theorem zmo_9_106 : zmok 9 106 (yX9_serial, cX9_serial, 4, (some FieldType.int), [], zk_9_106) (1774, 1772, 1773, 116) = true := zmok_I rfl zpn_9 (Or.inl ⟨rfl, (zlw_7 (i := 228) rfl)⟩) (zlw_1 (i := 10) rfl) zpd_13 (Or.inr (zlw_7 (i := 226) rfl)) (Or.inr (Or.inr (zlw_7 (i := 227) rfl))) (Or.inl rfl) rfl rfl
theorem zmo_9_107 : zmok 9 107 (yX9_prints, cX9_prints, 3, (none : Option FieldType), [], zk_9_107) (1799, 1798, 103, 116) = true := zmok_I rfl zpn_9 (Or.inl ⟨rfl, (zlw_8 (i := 13) rfl)⟩) (zlw_1 (i := 10) rfl) zpd_39 (Or.inr (zlw_8 (i := 12) rfl)) (Or.inr (Or.inr (zlw_0 (i := 103) rfl))) (Or.inl rfl) rfl rfl
theorem zmo_9_108 : zmok 9 108 (yX9_printsNumber, cX9_printsNumber, 2, (none : Option FieldType), [], zk_9_108) (1815, 1814, 105, 116) = true := zmok_I rfl zpn_9 (Or.inl ⟨rfl, (zlw_8 (i := 29) rfl)⟩) (zlw_1 (i := 10) rfl) zpd_4 (Or.inr (zlw_8 (i := 28) rfl)) (Or.inr (Or.inr (zlw_0 (i := 105) rfl))) (Or.inl rfl) rfl rfl
theorem zmo_9_109 : zmok 9 109 (yX9_printsDeed, cX9_printsDeed, 3, (none : Option FieldType), [], zk_9_109) (1804, 1803, 104, 116) = true := zmok_I rfl zpn_9 (Or.inl ⟨rfl, (zlw_8 (i := 18) rfl)⟩) (zlw_1 (i := 10) rfl) zpd_29 (Or.inr (zlw_8 (i := 17) rfl)) (Or.inr (Or.inr (zlw_0 (i := 104) rfl))) (Or.inl rfl) rfl rfl
theorem zmo_9_110 : zmok 9 110 (yX9_text, cX9_text, 3, (some FieldType.int), [], zk_9_110) (1794, 1792, 1793, 116) = true := zmok_I rfl zpn_9 (Or.inl ⟨rfl, (zlw_8 (i := 8) rfl)⟩) (zlw_1 (i := 10) rfl) zpd_13 (Or.inr (zlw_8 (i := 6) rfl)) (Or.inr (Or.inr (zlw_8 (i := 7) rfl))) (Or.inl rfl) rfl rfl
theorem zmo_9_111 : zmok 9 111 (yX9_octet, cX9_octet, 2, (some FieldType.int), [], zk_9_111) (1819, 1817, 1818, 116) = true := zmok_I rfl zpn_9 (Or.inl ⟨rfl, (zlw_8 (i := 33) rfl)⟩) (zlw_1 (i := 10) rfl) zpd_13 (Or.inr (zlw_8 (i := 31) rfl)) (Or.inr (Or.inr (zlw_8 (i := 32) rfl))) (Or.inl rfl) rfl rfl
theorem zmo_10_0 : zmok 10 0 (yL_machine, cL_machine, 3, (some FieldType.int), [(0, 8, 11, 13), (0, 8, 14, 15)], zk_10_0) (767, 766, 0, 106) = true := zmok_I rfl zpn_10 (Or.inr ⟨(fun h => nomatch h), (zlw_3 (i := 181) rfl)⟩) (zlw_1 (i := 0) rfl) zpd_40 (Or.inl (zlw_3 (i := 180) rfl)) (Or.inl (zlw_3 (i := 180) rfl)) (Or.inl rfl) rfl rfl
theorem zmo_10_1 : zmok 10 1 (yL_thread, cL_thread, 5, (some FieldType.int), [(0, 10, 13, 21), (0, 10, 17, 23)], zk_10_1) (986, 985, 0, 106) = true := zmok_I rfl zpn_10 (Or.inr ⟨(fun h => nomatch h), (zlw_4 (i := 160) rfl)⟩) (zlw_1 (i := 0) rfl) zpd_41 (Or.inl (zlw_4 (i := 159) rfl)) (Or.inl (zlw_4 (i := 159) rfl)) (Or.inl rfl) rfl rfl
theorem zmo_10_2 : zmok 10 2 (yL_leftOut, cL_leftOut, 5, (some FieldType.int), [(0, 10, 13, 21)], zk_10_2) (1037, 1036, 0, 106) = true := zmok_I rfl zpn_10 (Or.inr ⟨(fun h => nomatch h), (zlw_4 (i := 211) rfl)⟩) (zlw_1 (i := 0) rfl) zpd_41 (Or.inl (zlw_4 (i := 210) rfl)) (Or.inl (zlw_4 (i := 210) rfl)) (Or.inl rfl) rfl rfl
theorem zmo_10_3 : zmok 10 3 (yL_blocks, cL_blocks, 5, (some FieldType.int), [(0, 10, 13, 21), (0, 10, 17, 23)], zk_10_3) (1044, 1043, 0, 106) = true := zmok_I rfl zpn_10 (Or.inr ⟨(fun h => nomatch h), (zlw_4 (i := 218) rfl)⟩) (zlw_1 (i := 0) rfl) zpd_41 (Or.inl (zlw_4 (i := 217) rfl)) (Or.inl (zlw_4 (i := 217) rfl)) (Or.inl rfl) rfl rfl
theorem zmo_10_4 : zmok 10 4 (yL_fell, cL_fell, 5, (some FieldType.int), [(0, 10, 13, 21), (0, 10, 17, 23)], zk_10_4) (1055, 1054, 0, 106) = true := zmok_I rfl zpn_10 (Or.inr ⟨(fun h => nomatch h), (zlw_4 (i := 229) rfl)⟩) (zlw_1 (i := 0) rfl) zpd_41 (Or.inl (zlw_4 (i := 228) rfl)) (Or.inl (zlw_4 (i := 228) rfl)) (Or.inl rfl) rfl rfl
theorem zmo_10_5 : zmok 10 5 (yL_word, cL_word, 4, (some FieldType.int), [(0, 9, 12, 21)], zk_10_5) (1063, 1062, 0, 106) = true := zmok_I rfl zpn_10 (Or.inr ⟨(fun h => nomatch h), (zlw_4 (i := 237) rfl)⟩) (zlw_1 (i := 0) rfl) zpd_42 (Or.inl (zlw_4 (i := 236) rfl)) (Or.inl (zlw_4 (i := 236) rfl)) (Or.inl rfl) rfl rfl
theorem zmo_10_6 : zmok 10 6 (yL_sees, cL_sees, 5, (some FieldType.int), [(0, 10, 13, 21)], zk_10_6) (1074, 1073, 0, 106) = true := zmok_I rfl zpn_10 (Or.inr ⟨(fun h => nomatch h), (zlw_5 (i := 8) rfl)⟩) (zlw_1 (i := 0) rfl) zpd_41 (Or.inl (zlw_5 (i := 7) rfl)) (Or.inl (zlw_5 (i := 7) rfl)) (Or.inl rfl) rfl rfl
theorem zmo_10_7 : zmok 10 7 (yL_lock, cL_lock, 5, (some FieldType.int), [(0, 10, 13, 21), (0, 10, 17, 23)], zk_10_7) (1082, 1081, 0, 106) = true := zmok_I rfl zpn_10 (Or.inr ⟨(fun h => nomatch h), (zlw_5 (i := 16) rfl)⟩) (zlw_1 (i := 0) rfl) zpd_41 (Or.inl (zlw_5 (i := 15) rfl)) (Or.inl (zlw_5 (i := 15) rfl)) (Or.inl rfl) rfl rfl
theorem zmo_10_8 : zmok 10 8 (yL_term, cL_term, 4, (some FieldType.int), [(0, 9, 12, 23)], zk_10_8) (1096, 1095, 0, 106) = true := zmok_I rfl zpn_10 (Or.inr ⟨(fun h => nomatch h), (zlw_5 (i := 30) rfl)⟩) (zlw_1 (i := 0) rfl) zpd_42 (Or.inl (zlw_5 (i := 29) rfl)) (Or.inl (zlw_5 (i := 29) rfl)) (Or.inl rfl) rfl rfl
theorem zmo_10_9 : zmok 10 9 (yL_deed, cL_deed, 6, (some FieldType.int), [(0, 12, 15, 21), (0, 12, 19, 23)], zk_10_9) (1104, 1103, 0, 106) = true := zmok_I rfl zpn_10 (Or.inr ⟨(fun h => nomatch h), (zlw_5 (i := 38) rfl)⟩) (zlw_1 (i := 0) rfl) zpd_43 (Or.inl (zlw_5 (i := 37) rfl)) (Or.inl (zlw_5 (i := 37) rfl)) (Or.inl rfl) rfl rfl
theorem zmo_10_10 : zmok 10 10 (yL_step, cL_step, 4, (some FieldType.int), [(0, 9, 12, 21), (0, 9, 15, 54)], zk_10_10) (1113, 1112, 0, 106) = true := zmok_I rfl zpn_10 (Or.inr ⟨(fun h => nomatch h), (zlw_5 (i := 47) rfl)⟩) (zlw_1 (i := 0) rfl) zpd_42 (Or.inl (zlw_5 (i := 46) rfl)) (Or.inl (zlw_5 (i := 46) rfl)) (Or.inl rfl) rfl rfl
theorem zmo_10_11 : zmok 10 11 (yL_run, cL_run, 4, (some FieldType.int), [(0, 9, 12, 13)], zk_10_11) (1137, 1136, 0, 106) = true := zmok_I rfl zpn_10 (Or.inr ⟨(fun h => nomatch h), (zlw_5 (i := 71) rfl)⟩) (zlw_1 (i := 0) rfl) zpd_42 (Or.inl (zlw_5 (i := 70) rfl)) (Or.inl (zlw_5 (i := 70) rfl)) (Or.inl rfl) rfl rfl
theorem zmo_10_12 : zmok 10 12 (yL_chance, cL_chance, 4, (some FieldType.int), [(0, 9, 12, 13)], zk_10_12) (1162, 1161, 0, 106) = true := zmok_I rfl zpn_10 (Or.inr ⟨(fun h => nomatch h), (zlw_5 (i := 96) rfl)⟩) (zlw_1 (i := 0) rfl) zpd_42 (Or.inl (zlw_5 (i := 95) rfl)) (Or.inl (zlw_5 (i := 95) rfl)) (Or.inl rfl) rfl rfl
theorem zmo_10_13 : zmok 10 13 (yL_poke, cL_poke, 5, (some FieldType.int), [(0, 10, 13, 21), (0, 10, 17, 13)], zk_10_13) (1169, 1168, 0, 106) = true := zmok_I rfl zpn_10 (Or.inr ⟨(fun h => nomatch h), (zlw_5 (i := 103) rfl)⟩) (zlw_1 (i := 0) rfl) zpd_41 (Or.inl (zlw_5 (i := 102) rfl)) (Or.inl (zlw_5 (i := 102) rfl)) (Or.inl rfl) rfl rfl
theorem zmo_10_14 : zmok 10 14 (yL_tune, cL_tune, 5, (some FieldType.int), [(0, 10, 13, 23), (0, 10, 17, 13)], zk_10_14) (1178, 1177, 0, 106) = true := zmok_I rfl zpn_10 (Or.inr ⟨(fun h => nomatch h), (zlw_5 (i := 112) rfl)⟩) (zlw_1 (i := 0) rfl) zpd_41 (Or.inl (zlw_5 (i := 111) rfl)) (Or.inl (zlw_5 (i := 111) rfl)) (Or.inl rfl) rfl rfl
theorem zmo_10_15 : zmok 10 15 (yL_due, cL_due, 4, (some FieldType.int), [(0, 9, 12, 21)], zk_10_15) (1188, 1187, 0, 106) = true := zmok_I rfl zpn_10 (Or.inr ⟨(fun h => nomatch h), (zlw_5 (i := 122) rfl)⟩) (zlw_1 (i := 0) rfl) zpd_42 (Or.inl (zlw_5 (i := 121) rfl)) (Or.inl (zlw_5 (i := 121) rfl)) (Or.inl rfl) rfl rfl
theorem zmo_10_16 : zmok 10 16 (yL_quickest, cL_quickest, 4, (some FieldType.int), [(0, 9, 12, 23)], zk_10_16) (1195, 1194, 0, 106) = true := zmok_I rfl zpn_10 (Or.inr ⟨(fun h => nomatch h), (zlw_5 (i := 129) rfl)⟩) (zlw_1 (i := 0) rfl) zpd_42 (Or.inl (zlw_5 (i := 128) rfl)) (Or.inl (zlw_5 (i := 128) rfl)) (Or.inl rfl) rfl rfl
theorem zmo_10_17 : zmok 10 17 (yL_touches, cL_touches, 5, (some FieldType.int), [(0, 10, 13, 21), (0, 10, 17, 23)], zk_10_17) (1202, 1201, 0, 106) = true := zmok_I rfl zpn_10 (Or.inr ⟨(fun h => nomatch h), (zlw_5 (i := 136) rfl)⟩) (zlw_1 (i := 0) rfl) zpd_41 (Or.inl (zlw_5 (i := 135) rfl)) (Or.inl (zlw_5 (i := 135) rfl)) (Or.inl rfl) rfl rfl
theorem zmo_10_18 : zmok 10 18 (yL_rivals, cL_rivals, 5, (some FieldType.int), [(0, 10, 13, 21), (0, 10, 17, 13)], zk_10_18) (1213, 1212, 0, 106) = true := zmok_I rfl zpn_10 (Or.inr ⟨(fun h => nomatch h), (zlw_5 (i := 147) rfl)⟩) (zlw_1 (i := 0) rfl) zpd_41 (Or.inl (zlw_5 (i := 146) rfl)) (Or.inl (zlw_5 (i := 146) rfl)) (Or.inl rfl) rfl rfl
theorem zmo_10_19 : zmok 10 19 (yL_nest, cL_nest, 4, (some FieldType.int), [(0, 9, 12, 21)], zk_10_19) (1221, 1220, 0, 106) = true := zmok_I rfl zpn_10 (Or.inr ⟨(fun h => nomatch h), (zlw_5 (i := 155) rfl)⟩) (zlw_1 (i := 0) rfl) zpd_42 (Or.inl (zlw_5 (i := 154) rfl)) (Or.inl (zlw_5 (i := 154) rfl)) (Or.inl rfl) rfl rfl
theorem zmo_10_20 : zmok 10 20 (yL_parts, cL_parts, 4, (some FieldType.int), [(0, 9, 12, 21)], zk_10_20) (1234, 1233, 0, 106) = true := zmok_I rfl zpn_10 (Or.inr ⟨(fun h => nomatch h), (zlw_5 (i := 168) rfl)⟩) (zlw_1 (i := 0) rfl) zpd_42 (Or.inl (zlw_5 (i := 167) rfl)) (Or.inl (zlw_5 (i := 167) rfl)) (Or.inl rfl) rfl rfl
theorem zmo_10_21 : zmok 10 21 (yL_output, cL_output, 5, (some FieldType.int), [(0, 10, 13, 23)], zk_10_21) (1242, 1241, 0, 106) = true := zmok_I rfl zpn_10 (Or.inr ⟨(fun h => nomatch h), (zlw_5 (i := 176) rfl)⟩) (zlw_1 (i := 0) rfl) zpd_41 (Or.inl (zlw_5 (i := 175) rfl)) (Or.inl (zlw_5 (i := 175) rfl)) (Or.inl rfl) rfl rfl
theorem zmo_10_22 : zmok 10 22 (yL_log, cL_log, 5, (some FieldType.int), [(0, 10, 13, 23)], zk_10_22) (1249, 1248, 0, 106) = true := zmok_I rfl zpn_10 (Or.inr ⟨(fun h => nomatch h), (zlw_5 (i := 183) rfl)⟩) (zlw_1 (i := 0) rfl) zpd_41 (Or.inl (zlw_5 (i := 182) rfl)) (Or.inl (zlw_5 (i := 182) rfl)) (Or.inl rfl) rfl rfl
theorem zmo_10_23 : zmok 10 23 (yL_text, cL_text, 4, (some FieldType.int), [(0, 9, 12, 21)], zk_10_23) (1264, 1263, 0, 106) = true := zmok_I rfl zpn_10 (Or.inr ⟨(fun h => nomatch h), (zlw_5 (i := 198) rfl)⟩) (zlw_1 (i := 0) rfl) zpd_42 (Or.inl (zlw_5 (i := 197) rfl)) (Or.inl (zlw_5 (i := 197) rfl)) (Or.inl rfl) rfl rfl
theorem zmo_11_0 : zmok 11 0 (yJ6_bitCount_0f7a4, cJ6_bitCount_0f7a4, 1, (some FieldType.int), [], zk_11_0) (584, 583, 0, 131) = true := zmok_I rfl zpn_11 (Or.inl ⟨rfl, (zlw_2 (i := 238) rfl)⟩) (zlw_1 (i := 25) rfl) zpd_13 (Or.inl (zlw_2 (i := 237) rfl)) (Or.inl (zlw_2 (i := 237) rfl)) (Or.inl rfl) rfl rfl
theorem zmt_0 {i : Nat} {q : zMt} {pl : Nat × Nat × Nat × Nat} (h1 : (zmc_0)[i]? = some q) (h2 : (zpl 0)[i]? = some pl) : zmok 0 i q pl = true := by
  match i, h1, h2 with
  | 0, h1, h2 => cases h1; cases h2; exact zmo_0_0
  | 1, h1, h2 => cases h1; cases h2; exact zmo_0_1
  | 2, h1, h2 => cases h1; cases h2; exact zmo_0_2
  | 3, h1, h2 => cases h1; cases h2; exact zmo_0_3
  | 4, h1, h2 => cases h1; cases h2; exact zmo_0_4
  | 5, h1, h2 => cases h1; cases h2; exact zmo_0_5
  | 6, h1, h2 => cases h1; cases h2; exact zmo_0_6
  | 7, h1, h2 => cases h1; cases h2; exact zmo_0_7
  | 8, h1, h2 => cases h1; cases h2; exact zmo_0_8
  | k + 9, h1, _ => exact absurd (List.getElem?_eq_some_iff.mp h1).1 (by simp [zmc_0])
theorem zmt_1 {i : Nat} {q : zMt} {pl : Nat × Nat × Nat × Nat} (h1 : (zmc_1)[i]? = some q) (h2 : (zpl 1)[i]? = some pl) : zmok 1 i q pl = true := by
  match i, h1, h2 with
  | 0, h1, h2 => cases h1; cases h2; exact zmo_1_0
  | 1, h1, h2 => cases h1; cases h2; exact zmo_1_1
  | 2, h1, h2 => cases h1; cases h2; exact zmo_1_2
  | 3, h1, h2 => cases h1; cases h2; exact zmo_1_3
  | k + 4, h1, _ => exact absurd (List.getElem?_eq_some_iff.mp h1).1 (by simp [zmc_1])
theorem zmt_2 {i : Nat} {q : zMt} {pl : Nat × Nat × Nat × Nat} (h1 : (zmc_2)[i]? = some q) (h2 : (zpl 2)[i]? = some pl) : zmok 2 i q pl = true := by
  match i, h1, h2 with
  | 0, h1, h2 => cases h1; cases h2; exact zmo_2_0
  | 1, h1, h2 => cases h1; cases h2; exact zmo_2_1
  | 2, h1, h2 => cases h1; cases h2; exact zmo_2_2
  | 3, h1, h2 => cases h1; cases h2; exact zmo_2_3
  | k + 4, h1, _ => exact absurd (List.getElem?_eq_some_iff.mp h1).1 (by simp [zmc_2])
theorem zmt_3 {i : Nat} {q : zMt} {pl : Nat × Nat × Nat × Nat} (h1 : (zmc_3)[i]? = some q) (h2 : (zpl 3)[i]? = some pl) : zmok 3 i q pl = true := by
  match i, h1, h2 with
  | 0, h1, h2 => cases h1; cases h2; exact zmo_3_0
  | 1, h1, h2 => cases h1; cases h2; exact zmo_3_1
  | 2, h1, h2 => cases h1; cases h2; exact zmo_3_2
  | 3, h1, h2 => cases h1; cases h2; exact zmo_3_3
  | 4, h1, h2 => cases h1; cases h2; exact zmo_3_4
  | 5, h1, h2 => cases h1; cases h2; exact zmo_3_5
  | 6, h1, h2 => cases h1; cases h2; exact zmo_3_6
  | 7, h1, h2 => cases h1; cases h2; exact zmo_3_7
  | 8, h1, h2 => cases h1; cases h2; exact zmo_3_8
  | 9, h1, h2 => cases h1; cases h2; exact zmo_3_9
  | 10, h1, h2 => cases h1; cases h2; exact zmo_3_10
  | 11, h1, h2 => cases h1; cases h2; exact zmo_3_11
  | 12, h1, h2 => cases h1; cases h2; exact zmo_3_12
  | 13, h1, h2 => cases h1; cases h2; exact zmo_3_13
  | 14, h1, h2 => cases h1; cases h2; exact zmo_3_14
  | 15, h1, h2 => cases h1; cases h2; exact zmo_3_15
  | 16, h1, h2 => cases h1; cases h2; exact zmo_3_16
  | 17, h1, h2 => cases h1; cases h2; exact zmo_3_17
  | 18, h1, h2 => cases h1; cases h2; exact zmo_3_18
  | 19, h1, h2 => cases h1; cases h2; exact zmo_3_19
  | 20, h1, h2 => cases h1; cases h2; exact zmo_3_20
  | 21, h1, h2 => cases h1; cases h2; exact zmo_3_21
  | 22, h1, h2 => cases h1; cases h2; exact zmo_3_22
  | 23, h1, h2 => cases h1; cases h2; exact zmo_3_23
  | 24, h1, h2 => cases h1; cases h2; exact zmo_3_24
  | 25, h1, h2 => cases h1; cases h2; exact zmo_3_25
  | 26, h1, h2 => cases h1; cases h2; exact zmo_3_26
  | 27, h1, h2 => cases h1; cases h2; exact zmo_3_27
  | 28, h1, h2 => cases h1; cases h2; exact zmo_3_28
  | 29, h1, h2 => cases h1; cases h2; exact zmo_3_29
  | 30, h1, h2 => cases h1; cases h2; exact zmo_3_30
  | 31, h1, h2 => cases h1; cases h2; exact zmo_3_31
  | k + 32, h1, _ => exact absurd (List.getElem?_eq_some_iff.mp h1).1 (by simp [zmc_3])
theorem zmt_4 {i : Nat} {q : zMt} {pl : Nat × Nat × Nat × Nat} (h1 : (zmc_4)[i]? = some q) (h2 : (zpl 4)[i]? = some pl) : zmok 4 i q pl = true := by
  match i, h1, h2 with
  | 0, h1, h2 => cases h1; cases h2; exact zmo_4_0
  | 1, h1, h2 => cases h1; cases h2; exact zmo_4_1
  | 2, h1, h2 => cases h1; cases h2; exact zmo_4_2
  | 3, h1, h2 => cases h1; cases h2; exact zmo_4_3
  | 4, h1, h2 => cases h1; cases h2; exact zmo_4_4
  | 5, h1, h2 => cases h1; cases h2; exact zmo_4_5
  | 6, h1, h2 => cases h1; cases h2; exact zmo_4_6
  | 7, h1, h2 => cases h1; cases h2; exact zmo_4_7
  | 8, h1, h2 => cases h1; cases h2; exact zmo_4_8
  | k + 9, h1, _ => exact absurd (List.getElem?_eq_some_iff.mp h1).1 (by simp [zmc_4])
theorem zmt_5 {i : Nat} {q : zMt} {pl : Nat × Nat × Nat × Nat} (h1 : (zmc_5)[i]? = some q) (h2 : (zpl 5)[i]? = some pl) : zmok 5 i q pl = true := by
  match i, h1, h2 with
  | 0, h1, h2 => cases h1; cases h2; exact zmo_5_0
  | 1, h1, h2 => cases h1; cases h2; exact zmo_5_1
  | 2, h1, h2 => cases h1; cases h2; exact zmo_5_2
  | 3, h1, h2 => cases h1; cases h2; exact zmo_5_3
  | 4, h1, h2 => cases h1; cases h2; exact zmo_5_4
  | 5, h1, h2 => cases h1; cases h2; exact zmo_5_5
  | 6, h1, h2 => cases h1; cases h2; exact zmo_5_6
  | 7, h1, h2 => cases h1; cases h2; exact zmo_5_7
  | 8, h1, h2 => cases h1; cases h2; exact zmo_5_8
  | 9, h1, h2 => cases h1; cases h2; exact zmo_5_9
  | 10, h1, h2 => cases h1; cases h2; exact zmo_5_10
  | 11, h1, h2 => cases h1; cases h2; exact zmo_5_11
  | 12, h1, h2 => cases h1; cases h2; exact zmo_5_12
  | k + 13, h1, _ => exact absurd (List.getElem?_eq_some_iff.mp h1).1 (by simp [zmc_5])
theorem zmt_6 {i : Nat} {q : zMt} {pl : Nat × Nat × Nat × Nat} (h1 : (zmc_6)[i]? = some q) (h2 : (zpl 6)[i]? = some pl) : zmok 6 i q pl = true := by
  match i, h1, h2 with
  | 0, h1, h2 => cases h1; cases h2; exact zmo_6_0
  | 1, h1, h2 => cases h1; cases h2; exact zmo_6_1
  | 2, h1, h2 => cases h1; cases h2; exact zmo_6_2
  | 3, h1, h2 => cases h1; cases h2; exact zmo_6_3
  | 4, h1, h2 => cases h1; cases h2; exact zmo_6_4
  | 5, h1, h2 => cases h1; cases h2; exact zmo_6_5
  | 6, h1, h2 => cases h1; cases h2; exact zmo_6_6
  | 7, h1, h2 => cases h1; cases h2; exact zmo_6_7
  | 8, h1, h2 => cases h1; cases h2; exact zmo_6_8
  | 9, h1, h2 => cases h1; cases h2; exact zmo_6_9
  | 10, h1, h2 => cases h1; cases h2; exact zmo_6_10
  | 11, h1, h2 => cases h1; cases h2; exact zmo_6_11
  | k + 12, h1, _ => exact absurd (List.getElem?_eq_some_iff.mp h1).1 (by simp [zmc_6])
theorem zmt_7 {i : Nat} {q : zMt} {pl : Nat × Nat × Nat × Nat} (h1 : (zmc_7)[i]? = some q) (h2 : (zpl 7)[i]? = some pl) : zmok 7 i q pl = true := by
  match i, h1, h2 with
  | 0, h1, h2 => cases h1; cases h2; exact zmo_7_0
  | 1, h1, h2 => cases h1; cases h2; exact zmo_7_1
  | 2, h1, h2 => cases h1; cases h2; exact zmo_7_2
  | 3, h1, h2 => cases h1; cases h2; exact zmo_7_3
  | 4, h1, h2 => cases h1; cases h2; exact zmo_7_4
  | 5, h1, h2 => cases h1; cases h2; exact zmo_7_5
  | k + 6, h1, _ => exact absurd (List.getElem?_eq_some_iff.mp h1).1 (by simp [zmc_7])
theorem zmt_8 {i : Nat} {q : zMt} {pl : Nat × Nat × Nat × Nat} (h1 : (zmc_8)[i]? = some q) (h2 : (zpl 8)[i]? = some pl) : zmok 8 i q pl = true := by
  match i, h1, h2 with
  | 0, h1, h2 => cases h1; cases h2; exact zmo_8_0
  | 1, h1, h2 => cases h1; cases h2; exact zmo_8_1
  | 2, h1, h2 => cases h1; cases h2; exact zmo_8_2
  | 3, h1, h2 => cases h1; cases h2; exact zmo_8_3
  | 4, h1, h2 => cases h1; cases h2; exact zmo_8_4
  | 5, h1, h2 => cases h1; cases h2; exact zmo_8_5
  | 6, h1, h2 => cases h1; cases h2; exact zmo_8_6
  | 7, h1, h2 => cases h1; cases h2; exact zmo_8_7
  | 8, h1, h2 => cases h1; cases h2; exact zmo_8_8
  | 9, h1, h2 => cases h1; cases h2; exact zmo_8_9
  | 10, h1, h2 => cases h1; cases h2; exact zmo_8_10
  | 11, h1, h2 => cases h1; cases h2; exact zmo_8_11
  | 12, h1, h2 => cases h1; cases h2; exact zmo_8_12
  | 13, h1, h2 => cases h1; cases h2; exact zmo_8_13
  | 14, h1, h2 => cases h1; cases h2; exact zmo_8_14
  | 15, h1, h2 => cases h1; cases h2; exact zmo_8_15
  | 16, h1, h2 => cases h1; cases h2; exact zmo_8_16
  | 17, h1, h2 => cases h1; cases h2; exact zmo_8_17
  | 18, h1, h2 => cases h1; cases h2; exact zmo_8_18
  | 19, h1, h2 => cases h1; cases h2; exact zmo_8_19
  | 20, h1, h2 => cases h1; cases h2; exact zmo_8_20
  | 21, h1, h2 => cases h1; cases h2; exact zmo_8_21
  | 22, h1, h2 => cases h1; cases h2; exact zmo_8_22
  | 23, h1, h2 => cases h1; cases h2; exact zmo_8_23
  | 24, h1, h2 => cases h1; cases h2; exact zmo_8_24
  | 25, h1, h2 => cases h1; cases h2; exact zmo_8_25
  | 26, h1, h2 => cases h1; cases h2; exact zmo_8_26
  | 27, h1, h2 => cases h1; cases h2; exact zmo_8_27
  | 28, h1, h2 => cases h1; cases h2; exact zmo_8_28
  | 29, h1, h2 => cases h1; cases h2; exact zmo_8_29
  | 30, h1, h2 => cases h1; cases h2; exact zmo_8_30
  | 31, h1, h2 => cases h1; cases h2; exact zmo_8_31
  | 32, h1, h2 => cases h1; cases h2; exact zmo_8_32
  | 33, h1, h2 => cases h1; cases h2; exact zmo_8_33
  | 34, h1, h2 => cases h1; cases h2; exact zmo_8_34
  | 35, h1, h2 => cases h1; cases h2; exact zmo_8_35
  | 36, h1, h2 => cases h1; cases h2; exact zmo_8_36
  | 37, h1, h2 => cases h1; cases h2; exact zmo_8_37
  | 38, h1, h2 => cases h1; cases h2; exact zmo_8_38
  | 39, h1, h2 => cases h1; cases h2; exact zmo_8_39
  | 40, h1, h2 => cases h1; cases h2; exact zmo_8_40
  | 41, h1, h2 => cases h1; cases h2; exact zmo_8_41
  | k + 42, h1, _ => exact absurd (List.getElem?_eq_some_iff.mp h1).1 (by simp [zmc_8])
theorem zmt_9 {i : Nat} {q : zMt} {pl : Nat × Nat × Nat × Nat} (h1 : (zmc_9)[i]? = some q) (h2 : (zpl 9)[i]? = some pl) : zmok 9 i q pl = true := by
  match i, h1, h2 with
  | 0, h1, h2 => cases h1; cases h2; exact zmo_9_0
  | 1, h1, h2 => cases h1; cases h2; exact zmo_9_1
  | 2, h1, h2 => cases h1; cases h2; exact zmo_9_2
  | 3, h1, h2 => cases h1; cases h2; exact zmo_9_3
  | 4, h1, h2 => cases h1; cases h2; exact zmo_9_4
  | 5, h1, h2 => cases h1; cases h2; exact zmo_9_5
  | 6, h1, h2 => cases h1; cases h2; exact zmo_9_6
  | 7, h1, h2 => cases h1; cases h2; exact zmo_9_7
  | 8, h1, h2 => cases h1; cases h2; exact zmo_9_8
  | 9, h1, h2 => cases h1; cases h2; exact zmo_9_9
  | 10, h1, h2 => cases h1; cases h2; exact zmo_9_10
  | 11, h1, h2 => cases h1; cases h2; exact zmo_9_11
  | 12, h1, h2 => cases h1; cases h2; exact zmo_9_12
  | 13, h1, h2 => cases h1; cases h2; exact zmo_9_13
  | 14, h1, h2 => cases h1; cases h2; exact zmo_9_14
  | 15, h1, h2 => cases h1; cases h2; exact zmo_9_15
  | 16, h1, h2 => cases h1; cases h2; exact zmo_9_16
  | 17, h1, h2 => cases h1; cases h2; exact zmo_9_17
  | 18, h1, h2 => cases h1; cases h2; exact zmo_9_18
  | 19, h1, h2 => cases h1; cases h2; exact zmo_9_19
  | 20, h1, h2 => cases h1; cases h2; exact zmo_9_20
  | 21, h1, h2 => cases h1; cases h2; exact zmo_9_21
  | 22, h1, h2 => cases h1; cases h2; exact zmo_9_22
  | 23, h1, h2 => cases h1; cases h2; exact zmo_9_23
  | 24, h1, h2 => cases h1; cases h2; exact zmo_9_24
  | 25, h1, h2 => cases h1; cases h2; exact zmo_9_25
  | 26, h1, h2 => cases h1; cases h2; exact zmo_9_26
  | 27, h1, h2 => cases h1; cases h2; exact zmo_9_27
  | 28, h1, h2 => cases h1; cases h2; exact zmo_9_28
  | 29, h1, h2 => cases h1; cases h2; exact zmo_9_29
  | 30, h1, h2 => cases h1; cases h2; exact zmo_9_30
  | 31, h1, h2 => cases h1; cases h2; exact zmo_9_31
  | 32, h1, h2 => cases h1; cases h2; exact zmo_9_32
  | 33, h1, h2 => cases h1; cases h2; exact zmo_9_33
  | 34, h1, h2 => cases h1; cases h2; exact zmo_9_34
  | 35, h1, h2 => cases h1; cases h2; exact zmo_9_35
  | 36, h1, h2 => cases h1; cases h2; exact zmo_9_36
  | 37, h1, h2 => cases h1; cases h2; exact zmo_9_37
  | 38, h1, h2 => cases h1; cases h2; exact zmo_9_38
  | 39, h1, h2 => cases h1; cases h2; exact zmo_9_39
  | 40, h1, h2 => cases h1; cases h2; exact zmo_9_40
  | 41, h1, h2 => cases h1; cases h2; exact zmo_9_41
  | 42, h1, h2 => cases h1; cases h2; exact zmo_9_42
  | 43, h1, h2 => cases h1; cases h2; exact zmo_9_43
  | 44, h1, h2 => cases h1; cases h2; exact zmo_9_44
  | 45, h1, h2 => cases h1; cases h2; exact zmo_9_45
  | 46, h1, h2 => cases h1; cases h2; exact zmo_9_46
  | 47, h1, h2 => cases h1; cases h2; exact zmo_9_47
  | 48, h1, h2 => cases h1; cases h2; exact zmo_9_48
  | 49, h1, h2 => cases h1; cases h2; exact zmo_9_49
  | 50, h1, h2 => cases h1; cases h2; exact zmo_9_50
  | 51, h1, h2 => cases h1; cases h2; exact zmo_9_51
  | 52, h1, h2 => cases h1; cases h2; exact zmo_9_52
  | 53, h1, h2 => cases h1; cases h2; exact zmo_9_53
  | 54, h1, h2 => cases h1; cases h2; exact zmo_9_54
  | 55, h1, h2 => cases h1; cases h2; exact zmo_9_55
  | 56, h1, h2 => cases h1; cases h2; exact zmo_9_56
  | 57, h1, h2 => cases h1; cases h2; exact zmo_9_57
  | 58, h1, h2 => cases h1; cases h2; exact zmo_9_58
  | 59, h1, h2 => cases h1; cases h2; exact zmo_9_59
  | 60, h1, h2 => cases h1; cases h2; exact zmo_9_60
  | 61, h1, h2 => cases h1; cases h2; exact zmo_9_61
  | 62, h1, h2 => cases h1; cases h2; exact zmo_9_62
  | 63, h1, h2 => cases h1; cases h2; exact zmo_9_63
  | 64, h1, h2 => cases h1; cases h2; exact zmo_9_64
  | 65, h1, h2 => cases h1; cases h2; exact zmo_9_65
  | 66, h1, h2 => cases h1; cases h2; exact zmo_9_66
  | 67, h1, h2 => cases h1; cases h2; exact zmo_9_67
  | 68, h1, h2 => cases h1; cases h2; exact zmo_9_68
  | 69, h1, h2 => cases h1; cases h2; exact zmo_9_69
  | 70, h1, h2 => cases h1; cases h2; exact zmo_9_70
  | 71, h1, h2 => cases h1; cases h2; exact zmo_9_71
  | 72, h1, h2 => cases h1; cases h2; exact zmo_9_72
  | 73, h1, h2 => cases h1; cases h2; exact zmo_9_73
  | 74, h1, h2 => cases h1; cases h2; exact zmo_9_74
  | 75, h1, h2 => cases h1; cases h2; exact zmo_9_75
  | 76, h1, h2 => cases h1; cases h2; exact zmo_9_76
  | 77, h1, h2 => cases h1; cases h2; exact zmo_9_77
  | 78, h1, h2 => cases h1; cases h2; exact zmo_9_78
  | 79, h1, h2 => cases h1; cases h2; exact zmo_9_79
  | 80, h1, h2 => cases h1; cases h2; exact zmo_9_80
  | 81, h1, h2 => cases h1; cases h2; exact zmo_9_81
  | 82, h1, h2 => cases h1; cases h2; exact zmo_9_82
  | 83, h1, h2 => cases h1; cases h2; exact zmo_9_83
  | 84, h1, h2 => cases h1; cases h2; exact zmo_9_84
  | 85, h1, h2 => cases h1; cases h2; exact zmo_9_85
  | 86, h1, h2 => cases h1; cases h2; exact zmo_9_86
  | 87, h1, h2 => cases h1; cases h2; exact zmo_9_87
  | 88, h1, h2 => cases h1; cases h2; exact zmo_9_88
  | 89, h1, h2 => cases h1; cases h2; exact zmo_9_89
  | 90, h1, h2 => cases h1; cases h2; exact zmo_9_90
  | 91, h1, h2 => cases h1; cases h2; exact zmo_9_91
  | 92, h1, h2 => cases h1; cases h2; exact zmo_9_92
  | 93, h1, h2 => cases h1; cases h2; exact zmo_9_93
  | 94, h1, h2 => cases h1; cases h2; exact zmo_9_94
  | 95, h1, h2 => cases h1; cases h2; exact zmo_9_95
  | 96, h1, h2 => cases h1; cases h2; exact zmo_9_96
  | 97, h1, h2 => cases h1; cases h2; exact zmo_9_97
  | 98, h1, h2 => cases h1; cases h2; exact zmo_9_98
  | 99, h1, h2 => cases h1; cases h2; exact zmo_9_99
  | 100, h1, h2 => cases h1; cases h2; exact zmo_9_100
  | 101, h1, h2 => cases h1; cases h2; exact zmo_9_101
  | 102, h1, h2 => cases h1; cases h2; exact zmo_9_102
  | 103, h1, h2 => cases h1; cases h2; exact zmo_9_103
  | 104, h1, h2 => cases h1; cases h2; exact zmo_9_104
  | 105, h1, h2 => cases h1; cases h2; exact zmo_9_105
  | 106, h1, h2 => cases h1; cases h2; exact zmo_9_106
  | 107, h1, h2 => cases h1; cases h2; exact zmo_9_107
  | 108, h1, h2 => cases h1; cases h2; exact zmo_9_108
  | 109, h1, h2 => cases h1; cases h2; exact zmo_9_109
  | 110, h1, h2 => cases h1; cases h2; exact zmo_9_110
  | 111, h1, h2 => cases h1; cases h2; exact zmo_9_111
  | k + 112, h1, _ => exact absurd (List.getElem?_eq_some_iff.mp h1).1 (by simp [zmc_9])
theorem zmt_10 {i : Nat} {q : zMt} {pl : Nat × Nat × Nat × Nat} (h1 : (zmc_10)[i]? = some q) (h2 : (zpl 10)[i]? = some pl) (h3 : i ≠ 24) : zmok 10 i q pl = true := by
  match i, h1, h2, h3 with
  | 0, h1, h2, _ => cases h1; cases h2; exact zmo_10_0
  | 1, h1, h2, _ => cases h1; cases h2; exact zmo_10_1
  | 2, h1, h2, _ => cases h1; cases h2; exact zmo_10_2
  | 3, h1, h2, _ => cases h1; cases h2; exact zmo_10_3
  | 4, h1, h2, _ => cases h1; cases h2; exact zmo_10_4
  | 5, h1, h2, _ => cases h1; cases h2; exact zmo_10_5
  | 6, h1, h2, _ => cases h1; cases h2; exact zmo_10_6
  | 7, h1, h2, _ => cases h1; cases h2; exact zmo_10_7
  | 8, h1, h2, _ => cases h1; cases h2; exact zmo_10_8
  | 9, h1, h2, _ => cases h1; cases h2; exact zmo_10_9
  | 10, h1, h2, _ => cases h1; cases h2; exact zmo_10_10
  | 11, h1, h2, _ => cases h1; cases h2; exact zmo_10_11
  | 12, h1, h2, _ => cases h1; cases h2; exact zmo_10_12
  | 13, h1, h2, _ => cases h1; cases h2; exact zmo_10_13
  | 14, h1, h2, _ => cases h1; cases h2; exact zmo_10_14
  | 15, h1, h2, _ => cases h1; cases h2; exact zmo_10_15
  | 16, h1, h2, _ => cases h1; cases h2; exact zmo_10_16
  | 17, h1, h2, _ => cases h1; cases h2; exact zmo_10_17
  | 18, h1, h2, _ => cases h1; cases h2; exact zmo_10_18
  | 19, h1, h2, _ => cases h1; cases h2; exact zmo_10_19
  | 20, h1, h2, _ => cases h1; cases h2; exact zmo_10_20
  | 21, h1, h2, _ => cases h1; cases h2; exact zmo_10_21
  | 22, h1, h2, _ => cases h1; cases h2; exact zmo_10_22
  | 23, h1, h2, _ => cases h1; cases h2; exact zmo_10_23
  | 24, _, _, h3 => exact absurd rfl h3
  | k + 25, h1, _, _ => exact absurd (List.getElem?_eq_some_iff.mp h1).1 (by simp [zmc_10])
theorem zmt_11 {i : Nat} {q : zMt} {pl : Nat × Nat × Nat × Nat} (h1 : (zmc_11)[i]? = some q) (h2 : (zpl 11)[i]? = some pl) : zmok 11 i q pl = true := by
  match i, h1, h2 with
  | 0, h1, h2 => cases h1; cases h2; exact zmo_11_0
  | k + 1, h1, _ => exact absurd (List.getElem?_eq_some_iff.mp h1).1 (by simp [zmc_11])
