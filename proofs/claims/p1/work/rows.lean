section
-- ===== PART A: goes FIRST, ahead of the names: the tables' words, and 'selects' of the private methods out of them =====
/-- a private method of a class that the tables say can be made, by its rows of tables_1 -/
def lw_okq (q : MethodName × Nat) : Prop := (q.1.cls ≠ "java/lang/invoke/MethodHandle" ∧ q.1.cls ≠ "java/lang/invoke/VarHandle") ∧ Cond.instantiable q.1.cls q.2 ∈ tables_1 ∧ Cond.privateMethod q.1 ∈ tables_1 ∧ Cond.instanceMethod q.1 ∈ tables_1
theorem lw_p0 : lw_okq (⟨"ElidedLocks", "feedOne", "(I)V"⟩, 10) := ⟨⟨by decide +kernel, by decide +kernel⟩, List.mem_of_getElem? (i := 27) (by decide +kernel), List.mem_of_getElem? (i := 370) (by decide +kernel), List.mem_of_getElem? (i := 371) (by decide +kernel)⟩
theorem lw_p1 : lw_okq (⟨"ElidedLocks", "ticksAhead", "(III)I"⟩, 10) := ⟨⟨by decide +kernel, by decide +kernel⟩, List.mem_of_getElem? (i := 27) (by decide +kernel), List.mem_of_getElem? (i := 390) (by decide +kernel), List.mem_of_getElem? (i := 391) (by decide +kernel)⟩
theorem lw_p2 : lw_okq (⟨"ElidedLocks$Machine", "takeGuessing", "(ILElidedLocks$Strand;I)I"⟩, 14) := ⟨⟨by decide +kernel, by decide +kernel⟩, List.mem_of_getElem? (i := 35) (by decide +kernel), List.mem_of_getElem? (i := 450) (by decide +kernel), List.mem_of_getElem? (i := 451) (by decide +kernel)⟩
theorem lw_p3 : lw_okq (⟨"ElidedLocks$Machine", "isFull", "(LElidedLocks$Guess;I)Z"⟩, 14) := ⟨⟨by decide +kernel, by decide +kernel⟩, List.mem_of_getElem? (i := 35) (by decide +kernel), List.mem_of_getElem? (i := 473) (by decide +kernel), List.mem_of_getElem? (i := 474) (by decide +kernel)⟩
theorem lw_p4 : lw_okq (⟨"ElidedLocks$Machine", "fall", "(II)I"⟩, 14) := ⟨⟨by decide +kernel, by decide +kernel⟩, List.mem_of_getElem? (i := 35) (by decide +kernel), List.mem_of_getElem? (i := 483) (by decide +kernel), List.mem_of_getElem? (i := 484) (by decide +kernel)⟩
theorem lw_p5 : lw_okq (⟨"ElidedLocks$Machine", "holdersOf", "(IIZ)I"⟩, 14) := ⟨⟨by decide +kernel, by decide +kernel⟩, List.mem_of_getElem? (i := 35) (by decide +kernel), List.mem_of_getElem? (i := 499) (by decide +kernel), List.mem_of_getElem? (i := 500) (by decide +kernel)⟩
theorem lw_p6 : lw_okq (⟨"ElidedLocks$Machine", "anyBefore", "(II)Z"⟩, 14) := ⟨⟨by decide +kernel, by decide +kernel⟩, List.mem_of_getElem? (i := 35) (by decide +kernel), List.mem_of_getElem? (i := 503) (by decide +kernel), List.mem_of_getElem? (i := 504) (by decide +kernel)⟩
theorem lw_p7 : lw_okq (⟨"ElidedLocks$Machine", "takePlainly", "(ILElidedLocks$Strand;I)I"⟩, 14) := ⟨⟨by decide +kernel, by decide +kernel⟩, List.mem_of_getElem? (i := 35) (by decide +kernel), List.mem_of_getElem? (i := 527) (by decide +kernel), List.mem_of_getElem? (i := 528) (by decide +kernel)⟩
theorem lw_p8 : lw_okq (⟨"ElidedLocks$Machine", "dropLock", "(ILElidedLocks$Strand;I)I"⟩, 14) := ⟨⟨by decide +kernel, by decide +kernel⟩, List.mem_of_getElem? (i := 35) (by decide +kernel), List.mem_of_getElem? (i := 539) (by decide +kernel), List.mem_of_getElem? (i := 540) (by decide +kernel)⟩
theorem lw_p9 : lw_okq (⟨"ElidedLocks$Machine", "keep", "(ILElidedLocks$Strand;I)V"⟩, 14) := ⟨⟨by decide +kernel, by decide +kernel⟩, List.mem_of_getElem? (i := 35) (by decide +kernel), List.mem_of_getElem? (i := 547) (by decide +kernel), List.mem_of_getElem? (i := 548) (by decide +kernel)⟩
theorem lw_p10 : lw_okq (⟨"ElidedLocks$Machine", "getWord", "(ILElidedLocks$Strand;I)I"⟩, 14) := ⟨⟨by decide +kernel, by decide +kernel⟩, List.mem_of_getElem? (i := 35) (by decide +kernel), List.mem_of_getElem? (i := 551) (by decide +kernel), List.mem_of_getElem? (i := 552) (by decide +kernel)⟩
theorem lw_p11 : lw_okq (⟨"ElidedLocks$Machine", "goOnWorking", "(LElidedLocks$Strand;I)I"⟩, 14) := ⟨⟨by decide +kernel, by decide +kernel⟩, List.mem_of_getElem? (i := 35) (by decide +kernel), List.mem_of_getElem? (i := 555) (by decide +kernel), List.mem_of_getElem? (i := 556) (by decide +kernel)⟩
theorem lw_p12 : lw_okq (⟨"ElidedLocks$Machine", "putOut", "(ILElidedLocks$Strand;)I"⟩, 14) := ⟨⟨by decide +kernel, by decide +kernel⟩, List.mem_of_getElem? (i := 35) (by decide +kernel), List.mem_of_getElem? (i := 559) (by decide +kernel), List.mem_of_getElem? (i := 560) (by decide +kernel)⟩
theorem lw_p13 : lw_okq (⟨"ElidedLocks$Machine", "moveOn", "(ILElidedLocks$Strand;)I"⟩, 14) := ⟨⟨by decide +kernel, by decide +kernel⟩, List.mem_of_getElem? (i := 35) (by decide +kernel), List.mem_of_getElem? (i := 563) (by decide +kernel), List.mem_of_getElem? (i := 564) (by decide +kernel)⟩
theorem lw_p14 : lw_okq (⟨"ElidedLocks$Orders", "placeFrom", "(I)Z"⟩, 10) := ⟨⟨by decide +kernel, by decide +kernel⟩, List.mem_of_getElem? (i := 297) (by decide +kernel), List.mem_of_getElem? (i := 592) (by decide +kernel), List.mem_of_getElem? (i := 593) (by decide +kernel)⟩
theorem lw_p15 : lw_okq (⟨"ElidedLocks$Orders", "cameOut", "()Z"⟩, 10) := ⟨⟨by decide +kernel, by decide +kernel⟩, List.mem_of_getElem? (i := 297) (by decide +kernel), List.mem_of_getElem? (i := 596) (by decide +kernel), List.mem_of_getElem? (i := 597) (by decide +kernel)⟩
def lw_privs_1 : List (MethodName × Nat) := [(⟨"ElidedLocks", "feedOne", "(I)V"⟩, 10), (⟨"ElidedLocks", "ticksAhead", "(III)I"⟩, 10), (⟨"ElidedLocks$Machine", "takeGuessing", "(ILElidedLocks$Strand;I)I"⟩, 14), (⟨"ElidedLocks$Machine", "isFull", "(LElidedLocks$Guess;I)Z"⟩, 14), (⟨"ElidedLocks$Machine", "fall", "(II)I"⟩, 14), (⟨"ElidedLocks$Machine", "holdersOf", "(IIZ)I"⟩, 14), (⟨"ElidedLocks$Machine", "anyBefore", "(II)Z"⟩, 14), (⟨"ElidedLocks$Machine", "takePlainly", "(ILElidedLocks$Strand;I)I"⟩, 14), (⟨"ElidedLocks$Machine", "dropLock", "(ILElidedLocks$Strand;I)I"⟩, 14), (⟨"ElidedLocks$Machine", "keep", "(ILElidedLocks$Strand;I)V"⟩, 14), (⟨"ElidedLocks$Machine", "getWord", "(ILElidedLocks$Strand;I)I"⟩, 14), (⟨"ElidedLocks$Machine", "goOnWorking", "(LElidedLocks$Strand;I)I"⟩, 14), (⟨"ElidedLocks$Machine", "putOut", "(ILElidedLocks$Strand;)I"⟩, 14), (⟨"ElidedLocks$Machine", "moveOn", "(ILElidedLocks$Strand;)I"⟩, 14), (⟨"ElidedLocks$Orders", "placeFrom", "(I)Z"⟩, 10), (⟨"ElidedLocks$Orders", "cameOut", "()Z"⟩, 10)]
theorem lw_r1 : ∀ q ∈ lw_privs_1, lw_okq q := List.forall_mem_cons.mpr ⟨lw_p0, List.forall_mem_cons.mpr ⟨lw_p1, List.forall_mem_cons.mpr ⟨lw_p2, List.forall_mem_cons.mpr ⟨lw_p3, List.forall_mem_cons.mpr ⟨lw_p4, List.forall_mem_cons.mpr ⟨lw_p5, List.forall_mem_cons.mpr ⟨lw_p6, List.forall_mem_cons.mpr ⟨lw_p7, List.forall_mem_cons.mpr ⟨lw_p8, List.forall_mem_cons.mpr ⟨lw_p9, List.forall_mem_cons.mpr ⟨lw_p10, List.forall_mem_cons.mpr ⟨lw_p11, List.forall_mem_cons.mpr ⟨lw_p12, List.forall_mem_cons.mpr ⟨lw_p13, List.forall_mem_cons.mpr ⟨lw_p14, List.forall_mem_cons.mpr ⟨lw_p15, fun _ h => absurd h List.not_mem_nil⟩⟩⟩⟩⟩⟩⟩⟩⟩⟩⟩⟩⟩⟩⟩⟩
theorem lw_p16 : lw_okq (⟨"ElidedLocks$Orders", "playPart", "(I)Z"⟩, 10) := ⟨⟨by decide +kernel, by decide +kernel⟩, List.mem_of_getElem? (i := 297) (by decide +kernel), List.mem_of_getElem? (i := 600) (by decide +kernel), List.mem_of_getElem? (i := 601) (by decide +kernel)⟩
theorem lw_p17 : lw_okq (⟨"ElidedLocks$Orders", "playDeed", "(III)Z"⟩, 10) := ⟨⟨by decide +kernel, by decide +kernel⟩, List.mem_of_getElem? (i := 297) (by decide +kernel), List.mem_of_getElem? (i := 607) (by decide +kernel), List.mem_of_getElem? (i := 608) (by decide +kernel)⟩
theorem lw_p18 : lw_okq (⟨"ElidedLocks$Orders", "playOutput", "(II)Z"⟩, 10) := ⟨⟨by decide +kernel, by decide +kernel⟩, List.mem_of_getElem? (i := 297) (by decide +kernel), List.mem_of_getElem? (i := 612) (by decide +kernel), List.mem_of_getElem? (i := 613) (by decide +kernel)⟩
theorem lw_p19 : lw_okq (⟨"ElidedLocks$Reader", "lookAhead", "()V"⟩, 5) := ⟨⟨by decide +kernel, by decide +kernel⟩, List.mem_of_getElem? (i := 261) (by decide +kernel), List.mem_of_getElem? (i := 676) (by decide +kernel), List.mem_of_getElem? (i := 677) (by decide +kernel)⟩
theorem lw_p20 : lw_okq (⟨"ElidedLocks$Reader", "readLine", "()Z"⟩, 5) := ⟨⟨by decide +kernel, by decide +kernel⟩, List.mem_of_getElem? (i := 261) (by decide +kernel), List.mem_of_getElem? (i := 680) (by decide +kernel), List.mem_of_getElem? (i := 681) (by decide +kernel)⟩
theorem lw_p21 : lw_okq (⟨"ElidedLocks$Reader", "readName", "(Ljava/lang/String;)I"⟩, 5) := ⟨⟨by decide +kernel, by decide +kernel⟩, List.mem_of_getElem? (i := 261) (by decide +kernel), List.mem_of_getElem? (i := 685) (by decide +kernel), List.mem_of_getElem? (i := 686) (by decide +kernel)⟩
theorem lw_p22 : lw_okq (⟨"ElidedLocks$Reader", "readTrust", "()Z"⟩, 5) := ⟨⟨by decide +kernel, by decide +kernel⟩, List.mem_of_getElem? (i := 261) (by decide +kernel), List.mem_of_getElem? (i := 737) (by decide +kernel), List.mem_of_getElem? (i := 738) (by decide +kernel)⟩
theorem lw_p23 : lw_okq (⟨"ElidedLocks$Reader", "readNumber", "(II)I"⟩, 5) := ⟨⟨by decide +kernel, by decide +kernel⟩, List.mem_of_getElem? (i := 261) (by decide +kernel), List.mem_of_getElem? (i := 741) (by decide +kernel), List.mem_of_getElem? (i := 742) (by decide +kernel)⟩
theorem lw_p24 : lw_okq (⟨"ElidedLocks$Reader", "readWord", "()Z"⟩, 5) := ⟨⟨by decide +kernel, by decide +kernel⟩, List.mem_of_getElem? (i := 261) (by decide +kernel), List.mem_of_getElem? (i := 746) (by decide +kernel), List.mem_of_getElem? (i := 747) (by decide +kernel)⟩
theorem lw_p25 : lw_okq (⟨"ElidedLocks$Reader", "readLock", "()Z"⟩, 5) := ⟨⟨by decide +kernel, by decide +kernel⟩, List.mem_of_getElem? (i := 261) (by decide +kernel), List.mem_of_getElem? (i := 750) (by decide +kernel), List.mem_of_getElem? (i := 751) (by decide +kernel)⟩
theorem lw_p26 : lw_okq (⟨"ElidedLocks$Reader", "readTerm", "(I)Z"⟩, 5) := ⟨⟨by decide +kernel, by decide +kernel⟩, List.mem_of_getElem? (i := 261) (by decide +kernel), List.mem_of_getElem? (i := 759) (by decide +kernel), List.mem_of_getElem? (i := 760) (by decide +kernel)⟩
theorem lw_p27 : lw_okq (⟨"ElidedLocks$Reader", "readProgram", "()Z"⟩, 5) := ⟨⟨by decide +kernel, by decide +kernel⟩, List.mem_of_getElem? (i := 261) (by decide +kernel), List.mem_of_getElem? (i := 767) (by decide +kernel), List.mem_of_getElem? (i := 768) (by decide +kernel)⟩
theorem lw_p28 : lw_okq (⟨"ElidedLocks$Reader", "readDeed", "(LElidedLocks$Strand;)Z"⟩, 5) := ⟨⟨by decide +kernel, by decide +kernel⟩, List.mem_of_getElem? (i := 261) (by decide +kernel), List.mem_of_getElem? (i := 777) (by decide +kernel), List.mem_of_getElem? (i := 778) (by decide +kernel)⟩
theorem lw_p29 : lw_okq (⟨"ElidedLocks$Reader", "skipSign", "(C)Z"⟩, 5) := ⟨⟨by decide +kernel, by decide +kernel⟩, List.mem_of_getElem? (i := 261) (by decide +kernel), List.mem_of_getElem? (i := 790) (by decide +kernel), List.mem_of_getElem? (i := 791) (by decide +kernel)⟩
theorem lw_p30 : lw_okq (⟨"java/lang/Throwable", "fillInStackTrace", "(I)Ljava/lang/Throwable;"⟩, 6) := ⟨⟨by decide +kernel, by decide +kernel⟩, List.mem_of_getElem? (i := 834) (by decide +kernel), List.mem_of_getElem? (i := 832) (by decide +kernel), List.mem_of_getElem? (i := 833) (by decide +kernel)⟩
theorem lw_p31 : lw_okq (⟨"ElidedLocks", "strandOf", "(I)LElidedLocks$Strand;"⟩, 10) := ⟨⟨by decide +kernel, by decide +kernel⟩, List.mem_of_getElem? (i := 27) (by decide +kernel), List.mem_of_getElem? (i := 888) (by decide +kernel), List.mem_of_getElem? (i := 889) (by decide +kernel)⟩
def lw_privs_2 : List (MethodName × Nat) := [(⟨"ElidedLocks$Orders", "playPart", "(I)Z"⟩, 10), (⟨"ElidedLocks$Orders", "playDeed", "(III)Z"⟩, 10), (⟨"ElidedLocks$Orders", "playOutput", "(II)Z"⟩, 10), (⟨"ElidedLocks$Reader", "lookAhead", "()V"⟩, 5), (⟨"ElidedLocks$Reader", "readLine", "()Z"⟩, 5), (⟨"ElidedLocks$Reader", "readName", "(Ljava/lang/String;)I"⟩, 5), (⟨"ElidedLocks$Reader", "readTrust", "()Z"⟩, 5), (⟨"ElidedLocks$Reader", "readNumber", "(II)I"⟩, 5), (⟨"ElidedLocks$Reader", "readWord", "()Z"⟩, 5), (⟨"ElidedLocks$Reader", "readLock", "()Z"⟩, 5), (⟨"ElidedLocks$Reader", "readTerm", "(I)Z"⟩, 5), (⟨"ElidedLocks$Reader", "readProgram", "()Z"⟩, 5), (⟨"ElidedLocks$Reader", "readDeed", "(LElidedLocks$Strand;)Z"⟩, 5), (⟨"ElidedLocks$Reader", "skipSign", "(C)Z"⟩, 5), (⟨"java/lang/Throwable", "fillInStackTrace", "(I)Ljava/lang/Throwable;"⟩, 6), (⟨"ElidedLocks", "strandOf", "(I)LElidedLocks$Strand;"⟩, 10)]
theorem lw_r2 : ∀ q ∈ lw_privs_2, lw_okq q := List.forall_mem_cons.mpr ⟨lw_p16, List.forall_mem_cons.mpr ⟨lw_p17, List.forall_mem_cons.mpr ⟨lw_p18, List.forall_mem_cons.mpr ⟨lw_p19, List.forall_mem_cons.mpr ⟨lw_p20, List.forall_mem_cons.mpr ⟨lw_p21, List.forall_mem_cons.mpr ⟨lw_p22, List.forall_mem_cons.mpr ⟨lw_p23, List.forall_mem_cons.mpr ⟨lw_p24, List.forall_mem_cons.mpr ⟨lw_p25, List.forall_mem_cons.mpr ⟨lw_p26, List.forall_mem_cons.mpr ⟨lw_p27, List.forall_mem_cons.mpr ⟨lw_p28, List.forall_mem_cons.mpr ⟨lw_p29, List.forall_mem_cons.mpr ⟨lw_p30, List.forall_mem_cons.mpr ⟨lw_p31, fun _ h => absurd h List.not_mem_nil⟩⟩⟩⟩⟩⟩⟩⟩⟩⟩⟩⟩⟩⟩⟩⟩
theorem lw_p32 : lw_okq (⟨"ElidedLocks", "goOn", "(IZ)I"⟩, 10) := ⟨⟨by decide +kernel, by decide +kernel⟩, List.mem_of_getElem? (i := 27) (by decide +kernel), List.mem_of_getElem? (i := 1041) (by decide +kernel), List.mem_of_getElem? (i := 1042) (by decide +kernel)⟩
theorem lw_p33 : lw_okq (⟨"ElidedLocks$Machine", "draw", "(I)I"⟩, 14) := ⟨⟨by decide +kernel, by decide +kernel⟩, List.mem_of_getElem? (i := 35) (by decide +kernel), List.mem_of_getElem? (i := 1050) (by decide +kernel), List.mem_of_getElem? (i := 1051) (by decide +kernel)⟩
theorem lw_p34 : lw_okq (⟨"ElidedLocks$Writer", "putName", "(Ljava/lang/String;I)V"⟩, 2) := ⟨⟨by decide +kernel, by decide +kernel⟩, List.mem_of_getElem? (i := 284) (by decide +kernel), List.mem_of_getElem? (i := 1169) (by decide +kernel), List.mem_of_getElem? (i := 1170) (by decide +kernel)⟩
theorem lw_p35 : lw_okq (⟨"ElidedLocks$Writer", "putByte", "(I)V"⟩, 2) := ⟨⟨by decide +kernel, by decide +kernel⟩, List.mem_of_getElem? (i := 284) (by decide +kernel), List.mem_of_getElem? (i := 1175) (by decide +kernel), List.mem_of_getElem? (i := 1176) (by decide +kernel)⟩
theorem lw_p36 : lw_okq (⟨"ElidedLocks$Writer", "putNumber", "(I)V"⟩, 2) := ⟨⟨by decide +kernel, by decide +kernel⟩, List.mem_of_getElem? (i := 284) (by decide +kernel), List.mem_of_getElem? (i := 1182) (by decide +kernel), List.mem_of_getElem? (i := 1183) (by decide +kernel)⟩
theorem lw_p37 : lw_okq (⟨"ElidedLocksModel", "readText", "()Z"⟩, 17) := ⟨⟨by decide +kernel, by decide +kernel⟩, List.mem_of_getElem? (i := 1190) (by decide +kernel), List.mem_of_getElem? (i := 1275) (by decide +kernel), List.mem_of_getElem? (i := 1276) (by decide +kernel)⟩
theorem lw_p38 : lw_okq (⟨"ElidedLocksModel", "blanks", "()V"⟩, 17) := ⟨⟨by decide +kernel, by decide +kernel⟩, List.mem_of_getElem? (i := 1190) (by decide +kernel), List.mem_of_getElem? (i := 1279) (by decide +kernel), List.mem_of_getElem? (i := 1280) (by decide +kernel)⟩
theorem lw_p39 : lw_okq (⟨"ElidedLocksModel", "isAt", "(II)Z"⟩, 17) := ⟨⟨by decide +kernel, by decide +kernel⟩, List.mem_of_getElem? (i := 1190) (by decide +kernel), List.mem_of_getElem? (i := 1283) (by decide +kernel), List.mem_of_getElem? (i := 1284) (by decide +kernel)⟩
theorem lw_p40 : lw_okq (⟨"ElidedLocksModel", "letters", "()V"⟩, 17) := ⟨⟨by decide +kernel, by decide +kernel⟩, List.mem_of_getElem? (i := 1190) (by decide +kernel), List.mem_of_getElem? (i := 1287) (by decide +kernel), List.mem_of_getElem? (i := 1288) (by decide +kernel)⟩
theorem lw_p41 : lw_okq (⟨"ElidedLocksModel", "readLine", "()Z"⟩, 17) := ⟨⟨by decide +kernel, by decide +kernel⟩, List.mem_of_getElem? (i := 1190) (by decide +kernel), List.mem_of_getElem? (i := 1291) (by decide +kernel), List.mem_of_getElem? (i := 1292) (by decide +kernel)⟩
theorem lw_p42 : lw_okq (⟨"ElidedLocksModel", "isWord", "(Ljava/lang/String;)Z"⟩, 17) := ⟨⟨by decide +kernel, by decide +kernel⟩, List.mem_of_getElem? (i := 1190) (by decide +kernel), List.mem_of_getElem? (i := 1296) (by decide +kernel), List.mem_of_getElem? (i := 1297) (by decide +kernel)⟩
theorem lw_p43 : lw_okq (⟨"ElidedLocksModel", "readThread", "()Z"⟩, 17) := ⟨⟨by decide +kernel, by decide +kernel⟩, List.mem_of_getElem? (i := 1190) (by decide +kernel), List.mem_of_getElem? (i := 1302) (by decide +kernel), List.mem_of_getElem? (i := 1303) (by decide +kernel)⟩
theorem lw_p44 : lw_okq (⟨"ElidedLocksModel", "threads", "()I"⟩, 17) := ⟨⟨by decide +kernel, by decide +kernel⟩, List.mem_of_getElem? (i := 1190) (by decide +kernel), List.mem_of_getElem? (i := 1306) (by decide +kernel), List.mem_of_getElem? (i := 1307) (by decide +kernel)⟩
theorem lw_p45 : lw_okq (⟨"ElidedLocksModel", "readDeed", "(I)Z"⟩, 17) := ⟨⟨by decide +kernel, by decide +kernel⟩, List.mem_of_getElem? (i := 1190) (by decide +kernel), List.mem_of_getElem? (i := 1313) (by decide +kernel), List.mem_of_getElem? (i := 1314) (by decide +kernel)⟩
theorem lw_p46 : lw_okq (⟨"ElidedLocksModel", "kindHere", "()I"⟩, 17) := ⟨⟨by decide +kernel, by decide +kernel⟩, List.mem_of_getElem? (i := 1190) (by decide +kernel), List.mem_of_getElem? (i := 1317) (by decide +kernel), List.mem_of_getElem? (i := 1318) (by decide +kernel)⟩
theorem lw_p47 : lw_okq (⟨"ElidedLocksModel", "of", "(II)I"⟩, 17) := ⟨⟨by decide +kernel, by decide +kernel⟩, List.mem_of_getElem? (i := 1190) (by decide +kernel), List.mem_of_getElem? (i := 1329) (by decide +kernel), List.mem_of_getElem? (i := 1330) (by decide +kernel)⟩
def lw_privs_3 : List (MethodName × Nat) := [(⟨"ElidedLocks", "goOn", "(IZ)I"⟩, 10), (⟨"ElidedLocks$Machine", "draw", "(I)I"⟩, 14), (⟨"ElidedLocks$Writer", "putName", "(Ljava/lang/String;I)V"⟩, 2), (⟨"ElidedLocks$Writer", "putByte", "(I)V"⟩, 2), (⟨"ElidedLocks$Writer", "putNumber", "(I)V"⟩, 2), (⟨"ElidedLocksModel", "readText", "()Z"⟩, 17), (⟨"ElidedLocksModel", "blanks", "()V"⟩, 17), (⟨"ElidedLocksModel", "isAt", "(II)Z"⟩, 17), (⟨"ElidedLocksModel", "letters", "()V"⟩, 17), (⟨"ElidedLocksModel", "readLine", "()Z"⟩, 17), (⟨"ElidedLocksModel", "isWord", "(Ljava/lang/String;)Z"⟩, 17), (⟨"ElidedLocksModel", "readThread", "()Z"⟩, 17), (⟨"ElidedLocksModel", "threads", "()I"⟩, 17), (⟨"ElidedLocksModel", "readDeed", "(I)Z"⟩, 17), (⟨"ElidedLocksModel", "kindHere", "()I"⟩, 17), (⟨"ElidedLocksModel", "of", "(II)I"⟩, 17)]
theorem lw_r3 : ∀ q ∈ lw_privs_3, lw_okq q := List.forall_mem_cons.mpr ⟨lw_p32, List.forall_mem_cons.mpr ⟨lw_p33, List.forall_mem_cons.mpr ⟨lw_p34, List.forall_mem_cons.mpr ⟨lw_p35, List.forall_mem_cons.mpr ⟨lw_p36, List.forall_mem_cons.mpr ⟨lw_p37, List.forall_mem_cons.mpr ⟨lw_p38, List.forall_mem_cons.mpr ⟨lw_p39, List.forall_mem_cons.mpr ⟨lw_p40, List.forall_mem_cons.mpr ⟨lw_p41, List.forall_mem_cons.mpr ⟨lw_p42, List.forall_mem_cons.mpr ⟨lw_p43, List.forall_mem_cons.mpr ⟨lw_p44, List.forall_mem_cons.mpr ⟨lw_p45, List.forall_mem_cons.mpr ⟨lw_p46, List.forall_mem_cons.mpr ⟨lw_p47, fun _ h => absurd h List.not_mem_nil⟩⟩⟩⟩⟩⟩⟩⟩⟩⟩⟩⟩⟩⟩⟩⟩
theorem lw_p48 : lw_okq (⟨"ElidedLocksModel", "readTo", "(III)Z"⟩, 17) := ⟨⟨by decide +kernel, by decide +kernel⟩, List.mem_of_getElem? (i := 1190) (by decide +kernel), List.mem_of_getElem? (i := 1333) (by decide +kernel), List.mem_of_getElem? (i := 1334) (by decide +kernel)⟩
theorem lw_p49 : lw_okq (⟨"ElidedLocksModel", "number", "(II)I"⟩, 17) := ⟨⟨by decide +kernel, by decide +kernel⟩, List.mem_of_getElem? (i := 1190) (by decide +kernel), List.mem_of_getElem? (i := 1337) (by decide +kernel), List.mem_of_getElem? (i := 1338) (by decide +kernel)⟩
theorem lw_p50 : lw_okq (⟨"ElidedLocksModel", "passesSign", "(I)Z"⟩, 17) := ⟨⟨by decide +kernel, by decide +kernel⟩, List.mem_of_getElem? (i := 1190) (by decide +kernel), List.mem_of_getElem? (i := 1341) (by decide +kernel), List.mem_of_getElem? (i := 1342) (by decide +kernel)⟩
theorem lw_p51 : lw_okq (⟨"ElidedLocksModel", "readWordLine", "()Z"⟩, 17) := ⟨⟨by decide +kernel, by decide +kernel⟩, List.mem_of_getElem? (i := 1190) (by decide +kernel), List.mem_of_getElem? (i := 1346) (by decide +kernel), List.mem_of_getElem? (i := 1347) (by decide +kernel)⟩
theorem lw_p52 : lw_okq (⟨"ElidedLocksModel", "readLock", "()Z"⟩, 17) := ⟨⟨by decide +kernel, by decide +kernel⟩, List.mem_of_getElem? (i := 1190) (by decide +kernel), List.mem_of_getElem? (i := 1351) (by decide +kernel), List.mem_of_getElem? (i := 1352) (by decide +kernel)⟩
theorem lw_p53 : lw_okq (⟨"ElidedLocksModel", "readTrust", "()Z"⟩, 17) := ⟨⟨by decide +kernel, by decide +kernel⟩, List.mem_of_getElem? (i := 1190) (by decide +kernel), List.mem_of_getElem? (i := 1357) (by decide +kernel), List.mem_of_getElem? (i := 1358) (by decide +kernel)⟩
theorem lw_p54 : lw_okq (⟨"ElidedLocksModel", "termHere", "()I"⟩, 17) := ⟨⟨by decide +kernel, by decide +kernel⟩, List.mem_of_getElem? (i := 1190) (by decide +kernel), List.mem_of_getElem? (i := 1364) (by decide +kernel), List.mem_of_getElem? (i := 1365) (by decide +kernel)⟩
theorem lw_p55 : lw_okq (⟨"ElidedLocksModel", "throwsIf", "(ZI)Z"⟩, 17) := ⟨⟨by decide +kernel, by decide +kernel⟩, List.mem_of_getElem? (i := 1190) (by decide +kernel), List.mem_of_getElem? (i := 1381) (by decide +kernel), List.mem_of_getElem? (i := 1382) (by decide +kernel)⟩
theorem lw_p56 : lw_okq (⟨"ElidedLocksModel", "noThread", "(I)Z"⟩, 17) := ⟨⟨by decide +kernel, by decide +kernel⟩, List.mem_of_getElem? (i := 1190) (by decide +kernel), List.mem_of_getElem? (i := 1389) (by decide +kernel), List.mem_of_getElem? (i := 1390) (by decide +kernel)⟩
theorem lw_p57 : lw_okq (⟨"ElidedLocksModel", "isDone", "(I)Z"⟩, 17) := ⟨⟨by decide +kernel, by decide +kernel⟩, List.mem_of_getElem? (i := 1190) (by decide +kernel), List.mem_of_getElem? (i := 1396) (by decide +kernel), List.mem_of_getElem? (i := 1397) (by decide +kernel)⟩
theorem lw_p58 : lw_okq (⟨"ElidedLocksModel", "steps", "(I)I"⟩, 17) := ⟨⟨by decide +kernel, by decide +kernel⟩, List.mem_of_getElem? (i := 1190) (by decide +kernel), List.mem_of_getElem? (i := 1401) (by decide +kernel), List.mem_of_getElem? (i := 1402) (by decide +kernel)⟩
theorem lw_p59 : lw_okq (⟨"ElidedLocksModel", "deedOf", "(III)I"⟩, 17) := ⟨⟨by decide +kernel, by decide +kernel⟩, List.mem_of_getElem? (i := 1190) (by decide +kernel), List.mem_of_getElem? (i := 1405) (by decide +kernel), List.mem_of_getElem? (i := 1406) (by decide +kernel)⟩
theorem lw_p60 : lw_okq (⟨"ElidedLocksModel", "does", "(III)Z"⟩, 17) := ⟨⟨by decide +kernel, by decide +kernel⟩, List.mem_of_getElem? (i := 1190) (by decide +kernel), List.mem_of_getElem? (i := 1409) (by decide +kernel), List.mem_of_getElem? (i := 1410) (by decide +kernel)⟩
theorem lw_p61 : lw_okq (⟨"ElidedLocksModel", "takes", "(II)Z"⟩, 17) := ⟨⟨by decide +kernel, by decide +kernel⟩, List.mem_of_getElem? (i := 1190) (by decide +kernel), List.mem_of_getElem? (i := 1413) (by decide +kernel), List.mem_of_getElem? (i := 1414) (by decide +kernel)⟩
theorem lw_p62 : lw_okq (⟨"ElidedLocksModel", "reads", "(II)Z"⟩, 17) := ⟨⟨by decide +kernel, by decide +kernel⟩, List.mem_of_getElem? (i := 1190) (by decide +kernel), List.mem_of_getElem? (i := 1417) (by decide +kernel), List.mem_of_getElem? (i := 1418) (by decide +kernel)⟩
theorem lw_p63 : lw_okq (⟨"ElidedLocksModel", "blockOf", "(I)I"⟩, 17) := ⟨⟨by decide +kernel, by decide +kernel⟩, List.mem_of_getElem? (i := 1190) (by decide +kernel), List.mem_of_getElem? (i := 1421) (by decide +kernel), List.mem_of_getElem? (i := 1422) (by decide +kernel)⟩
def lw_privs_4 : List (MethodName × Nat) := [(⟨"ElidedLocksModel", "readTo", "(III)Z"⟩, 17), (⟨"ElidedLocksModel", "number", "(II)I"⟩, 17), (⟨"ElidedLocksModel", "passesSign", "(I)Z"⟩, 17), (⟨"ElidedLocksModel", "readWordLine", "()Z"⟩, 17), (⟨"ElidedLocksModel", "readLock", "()Z"⟩, 17), (⟨"ElidedLocksModel", "readTrust", "()Z"⟩, 17), (⟨"ElidedLocksModel", "termHere", "()I"⟩, 17), (⟨"ElidedLocksModel", "throwsIf", "(ZI)Z"⟩, 17), (⟨"ElidedLocksModel", "noThread", "(I)Z"⟩, 17), (⟨"ElidedLocksModel", "isDone", "(I)Z"⟩, 17), (⟨"ElidedLocksModel", "steps", "(I)I"⟩, 17), (⟨"ElidedLocksModel", "deedOf", "(III)I"⟩, 17), (⟨"ElidedLocksModel", "does", "(III)Z"⟩, 17), (⟨"ElidedLocksModel", "takes", "(II)Z"⟩, 17), (⟨"ElidedLocksModel", "reads", "(II)Z"⟩, 17), (⟨"ElidedLocksModel", "blockOf", "(I)I"⟩, 17)]
theorem lw_r4 : ∀ q ∈ lw_privs_4, lw_okq q := List.forall_mem_cons.mpr ⟨lw_p48, List.forall_mem_cons.mpr ⟨lw_p49, List.forall_mem_cons.mpr ⟨lw_p50, List.forall_mem_cons.mpr ⟨lw_p51, List.forall_mem_cons.mpr ⟨lw_p52, List.forall_mem_cons.mpr ⟨lw_p53, List.forall_mem_cons.mpr ⟨lw_p54, List.forall_mem_cons.mpr ⟨lw_p55, List.forall_mem_cons.mpr ⟨lw_p56, List.forall_mem_cons.mpr ⟨lw_p57, List.forall_mem_cons.mpr ⟨lw_p58, List.forall_mem_cons.mpr ⟨lw_p59, List.forall_mem_cons.mpr ⟨lw_p60, List.forall_mem_cons.mpr ⟨lw_p61, List.forall_mem_cons.mpr ⟨lw_p62, List.forall_mem_cons.mpr ⟨lw_p63, fun _ h => absurd h List.not_mem_nil⟩⟩⟩⟩⟩⟩⟩⟩⟩⟩⟩⟩⟩⟩⟩⟩
theorem lw_p64 : lw_okq (⟨"ElidedLocksModel", "clashing", "(IIZ)I"⟩, 17) := ⟨⟨by decide +kernel, by decide +kernel⟩, List.mem_of_getElem? (i := 1190) (by decide +kernel), List.mem_of_getElem? (i := 1425) (by decide +kernel), List.mem_of_getElem? (i := 1426) (by decide +kernel)⟩
theorem lw_p65 : lw_okq (⟨"ElidedLocksModel", "clears", "(II)Z"⟩, 17) := ⟨⟨by decide +kernel, by decide +kernel⟩, List.mem_of_getElem? (i := 1190) (by decide +kernel), List.mem_of_getElem? (i := 1429) (by decide +kernel), List.mem_of_getElem? (i := 1430) (by decide +kernel)⟩
theorem lw_p66 : lw_okq (⟨"ElidedLocksModel", "yields", "(II)Z"⟩, 17) := ⟨⟨by decide +kernel, by decide +kernel⟩, List.mem_of_getElem? (i := 1190) (by decide +kernel), List.mem_of_getElem? (i := 1433) (by decide +kernel), List.mem_of_getElem? (i := 1434) (by decide +kernel)⟩
theorem lw_p67 : lw_okq (⟨"ElidedLocksModel", "itFalls", "(II)V"⟩, 17) := ⟨⟨by decide +kernel, by decide +kernel⟩, List.mem_of_getElem? (i := 1190) (by decide +kernel), List.mem_of_getElem? (i := 1440) (by decide +kernel), List.mem_of_getElem? (i := 1441) (by decide +kernel)⟩
theorem lw_p68 : lw_okq (⟨"ElidedLocksModel", "falls", "(II)V"⟩, 17) := ⟨⟨by decide +kernel, by decide +kernel⟩, List.mem_of_getElem? (i := 1190) (by decide +kernel), List.mem_of_getElem? (i := 1444) (by decide +kernel), List.mem_of_getElem? (i := 1445) (by decide +kernel)⟩
theorem lw_p69 : lw_okq (⟨"ElidedLocksModel", "ends", "(I)V"⟩, 17) := ⟨⟨by decide +kernel, by decide +kernel⟩, List.mem_of_getElem? (i := 1190) (by decide +kernel), List.mem_of_getElem? (i := 1449) (by decide +kernel), List.mem_of_getElem? (i := 1450) (by decide +kernel)⟩
theorem lw_p70 : lw_okq (⟨"ElidedLocksModel", "logs", "(III)V"⟩, 17) := ⟨⟨by decide +kernel, by decide +kernel⟩, List.mem_of_getElem? (i := 1190) (by decide +kernel), List.mem_of_getElem? (i := 1453) (by decide +kernel), List.mem_of_getElem? (i := 1454) (by decide +kernel)⟩
theorem lw_p71 : lw_okq (⟨"ElidedLocksModel", "seen", "(II)I"⟩, 17) := ⟨⟨by decide +kernel, by decide +kernel⟩, List.mem_of_getElem? (i := 1190) (by decide +kernel), List.mem_of_getElem? (i := 1457) (by decide +kernel), List.mem_of_getElem? (i := 1458) (by decide +kernel)⟩
theorem lw_p72 : lw_okq (⟨"ElidedLocksModel", "placeLeft", "(II)I"⟩, 17) := ⟨⟨by decide +kernel, by decide +kernel⟩, List.mem_of_getElem? (i := 1190) (by decide +kernel), List.mem_of_getElem? (i := 1461) (by decide +kernel), List.mem_of_getElem? (i := 1462) (by decide +kernel)⟩
theorem lw_p73 : lw_okq (⟨"ElidedLocksModel", "writes", "(III)Z"⟩, 17) := ⟨⟨by decide +kernel, by decide +kernel⟩, List.mem_of_getElem? (i := 1190) (by decide +kernel), List.mem_of_getElem? (i := 1465) (by decide +kernel), List.mem_of_getElem? (i := 1466) (by decide +kernel)⟩
theorem lw_p74 : lw_okq (⟨"ElidedLocksModel", "leavesOut", "(II)V"⟩, 17) := ⟨⟨by decide +kernel, by decide +kernel⟩, List.mem_of_getElem? (i := 1190) (by decide +kernel), List.mem_of_getElem? (i := 1472) (by decide +kernel), List.mem_of_getElem? (i := 1473) (by decide +kernel)⟩
theorem lw_p75 : lw_okq (⟨"ElidedLocksModel", "beginsGuess", "(II)V"⟩, 17) := ⟨⟨by decide +kernel, by decide +kernel⟩, List.mem_of_getElem? (i := 1190) (by decide +kernel), List.mem_of_getElem? (i := 1476) (by decide +kernel), List.mem_of_getElem? (i := 1477) (by decide +kernel)⟩
theorem lw_p76 : lw_okq (⟨"ElidedLocksModel", "isTaken", "(II)V"⟩, 17) := ⟨⟨by decide +kernel, by decide +kernel⟩, List.mem_of_getElem? (i := 1190) (by decide +kernel), List.mem_of_getElem? (i := 1480) (by decide +kernel), List.mem_of_getElem? (i := 1481) (by decide +kernel)⟩
theorem lw_p77 : lw_okq (⟨"ElidedLocksModel", "drops", "(II)Z"⟩, 17) := ⟨⟨by decide +kernel, by decide +kernel⟩, List.mem_of_getElem? (i := 1190) (by decide +kernel), List.mem_of_getElem? (i := 1485) (by decide +kernel), List.mem_of_getElem? (i := 1486) (by decide +kernel)⟩
theorem lw_p78 : lw_okq (⟨"ElidedLocksModel", "isKept", "(II)V"⟩, 17) := ⟨⟨by decide +kernel, by decide +kernel⟩, List.mem_of_getElem? (i := 1190) (by decide +kernel), List.mem_of_getElem? (i := 1489) (by decide +kernel), List.mem_of_getElem? (i := 1490) (by decide +kernel)⟩
theorem lw_p79 : lw_okq (⟨"ElidedLocksModel", "works", "(II)Z"⟩, 17) := ⟨⟨by decide +kernel, by decide +kernel⟩, List.mem_of_getElem? (i := 1190) (by decide +kernel), List.mem_of_getElem? (i := 1493) (by decide +kernel), List.mem_of_getElem? (i := 1494) (by decide +kernel)⟩
def lw_privs_5 : List (MethodName × Nat) := [(⟨"ElidedLocksModel", "clashing", "(IIZ)I"⟩, 17), (⟨"ElidedLocksModel", "clears", "(II)Z"⟩, 17), (⟨"ElidedLocksModel", "yields", "(II)Z"⟩, 17), (⟨"ElidedLocksModel", "itFalls", "(II)V"⟩, 17), (⟨"ElidedLocksModel", "falls", "(II)V"⟩, 17), (⟨"ElidedLocksModel", "ends", "(I)V"⟩, 17), (⟨"ElidedLocksModel", "logs", "(III)V"⟩, 17), (⟨"ElidedLocksModel", "seen", "(II)I"⟩, 17), (⟨"ElidedLocksModel", "placeLeft", "(II)I"⟩, 17), (⟨"ElidedLocksModel", "writes", "(III)Z"⟩, 17), (⟨"ElidedLocksModel", "leavesOut", "(II)V"⟩, 17), (⟨"ElidedLocksModel", "beginsGuess", "(II)V"⟩, 17), (⟨"ElidedLocksModel", "isTaken", "(II)V"⟩, 17), (⟨"ElidedLocksModel", "drops", "(II)Z"⟩, 17), (⟨"ElidedLocksModel", "isKept", "(II)V"⟩, 17), (⟨"ElidedLocksModel", "works", "(II)Z"⟩, 17)]
theorem lw_r5 : ∀ q ∈ lw_privs_5, lw_okq q := List.forall_mem_cons.mpr ⟨lw_p64, List.forall_mem_cons.mpr ⟨lw_p65, List.forall_mem_cons.mpr ⟨lw_p66, List.forall_mem_cons.mpr ⟨lw_p67, List.forall_mem_cons.mpr ⟨lw_p68, List.forall_mem_cons.mpr ⟨lw_p69, List.forall_mem_cons.mpr ⟨lw_p70, List.forall_mem_cons.mpr ⟨lw_p71, List.forall_mem_cons.mpr ⟨lw_p72, List.forall_mem_cons.mpr ⟨lw_p73, List.forall_mem_cons.mpr ⟨lw_p74, List.forall_mem_cons.mpr ⟨lw_p75, List.forall_mem_cons.mpr ⟨lw_p76, List.forall_mem_cons.mpr ⟨lw_p77, List.forall_mem_cons.mpr ⟨lw_p78, List.forall_mem_cons.mpr ⟨lw_p79, fun _ h => absurd h List.not_mem_nil⟩⟩⟩⟩⟩⟩⟩⟩⟩⟩⟩⟩⟩⟩⟩⟩
theorem lw_p80 : lw_okq (⟨"ElidedLocksModel", "putsOut", "(I)Z"⟩, 17) := ⟨⟨by decide +kernel, by decide +kernel⟩, List.mem_of_getElem? (i := 1190) (by decide +kernel), List.mem_of_getElem? (i := 1497) (by decide +kernel), List.mem_of_getElem? (i := 1498) (by decide +kernel)⟩
theorem lw_p81 : lw_okq (⟨"ElidedLocksModel", "goes", "(IZ)I"⟩, 17) := ⟨⟨by decide +kernel, by decide +kernel⟩, List.mem_of_getElem? (i := 1190) (by decide +kernel), List.mem_of_getElem? (i := 1505) (by decide +kernel), List.mem_of_getElem? (i := 1506) (by decide +kernel)⟩
theorem lw_p82 : lw_okq (⟨"ElidedLocksModel", "areAllDone", "()Z"⟩, 17) := ⟨⟨by decide +kernel, by decide +kernel⟩, List.mem_of_getElem? (i := 1190) (by decide +kernel), List.mem_of_getElem? (i := 1509) (by decide +kernel), List.mem_of_getElem? (i := 1510) (by decide +kernel)⟩
theorem lw_p83 : lw_okq (⟨"ElidedLocksModel", "doneOnes", "()I"⟩, 17) := ⟨⟨by decide +kernel, by decide +kernel⟩, List.mem_of_getElem? (i := 1190) (by decide +kernel), List.mem_of_getElem? (i := 1513) (by decide +kernel), List.mem_of_getElem? (i := 1514) (by decide +kernel)⟩
theorem lw_p84 : lw_okq (⟨"ElidedLocksModel", "drawnOne", "()I"⟩, 17) := ⟨⟨by decide +kernel, by decide +kernel⟩, List.mem_of_getElem? (i := 1190) (by decide +kernel), List.mem_of_getElem? (i := 1517) (by decide +kernel), List.mem_of_getElem? (i := 1518) (by decide +kernel)⟩
theorem lw_p85 : lw_okq (⟨"ElidedLocksModel", "drawOf", "(I)I"⟩, 17) := ⟨⟨by decide +kernel, by decide +kernel⟩, List.mem_of_getElem? (i := 1190) (by decide +kernel), List.mem_of_getElem? (i := 1521) (by decide +kernel), List.mem_of_getElem? (i := 1522) (by decide +kernel)⟩
theorem lw_p86 : lw_okq (⟨"ElidedLocksModel", "nextOne", "()I"⟩, 17) := ⟨⟨by decide +kernel, by decide +kernel⟩, List.mem_of_getElem? (i := 1190) (by decide +kernel), List.mem_of_getElem? (i := 1526) (by decide +kernel), List.mem_of_getElem? (i := 1527) (by decide +kernel)⟩
theorem lw_p87 : lw_okq (⟨"ElidedLocksModel", "fellOf", "(I)I"⟩, 17) := ⟨⟨by decide +kernel, by decide +kernel⟩, List.mem_of_getElem? (i := 1190) (by decide +kernel), List.mem_of_getElem? (i := 1550) (by decide +kernel), List.mem_of_getElem? (i := 1551) (by decide +kernel)⟩
theorem lw_p88 : lw_okq (⟨"ElidedLocksModel", "noWord", "(I)Z"⟩, 17) := ⟨⟨by decide +kernel, by decide +kernel⟩, List.mem_of_getElem? (i := 1190) (by decide +kernel), List.mem_of_getElem? (i := 1570) (by decide +kernel), List.mem_of_getElem? (i := 1571) (by decide +kernel)⟩
theorem lw_p89 : lw_okq (⟨"ElidedLocksModel", "leavers", "(I)I"⟩, 17) := ⟨⟨by decide +kernel, by decide +kernel⟩, List.mem_of_getElem? (i := 1190) (by decide +kernel), List.mem_of_getElem? (i := 1582) (by decide +kernel), List.mem_of_getElem? (i := 1583) (by decide +kernel)⟩
theorem lw_p90 : lw_okq (⟨"ElidedLocksModel", "guessing", "()I"⟩, 17) := ⟨⟨by decide +kernel, by decide +kernel⟩, List.mem_of_getElem? (i := 1190) (by decide +kernel), List.mem_of_getElem? (i := 1606) (by decide +kernel), List.mem_of_getElem? (i := 1607) (by decide +kernel)⟩
theorem lw_p91 : lw_okq (⟨"ElidedLocksModel", "keptAll", "()I"⟩, 17) := ⟨⟨by decide +kernel, by decide +kernel⟩, List.mem_of_getElem? (i := 1190) (by decide +kernel), List.mem_of_getElem? (i := 1610) (by decide +kernel), List.mem_of_getElem? (i := 1611) (by decide +kernel)⟩
theorem lw_p92 : lw_okq (⟨"ElidedLocksModel", "heldLocks", "()I"⟩, 17) := ⟨⟨by decide +kernel, by decide +kernel⟩, List.mem_of_getElem? (i := 1190) (by decide +kernel), List.mem_of_getElem? (i := 1614) (by decide +kernel), List.mem_of_getElem? (i := 1615) (by decide +kernel)⟩
theorem lw_p93 : lw_okq (⟨"ElidedLocksModel", "dueOf", "(I)I"⟩, 17) := ⟨⟨by decide +kernel, by decide +kernel⟩, List.mem_of_getElem? (i := 1190) (by decide +kernel), List.mem_of_getElem? (i := 1622) (by decide +kernel), List.mem_of_getElem? (i := 1623) (by decide +kernel)⟩
theorem lw_p94 : lw_okq (⟨"ElidedLocksModel", "dueBy", "(I)I"⟩, 17) := ⟨⟨by decide +kernel, by decide +kernel⟩, List.mem_of_getElem? (i := 1190) (by decide +kernel), List.mem_of_getElem? (i := 1630) (by decide +kernel), List.mem_of_getElem? (i := 1631) (by decide +kernel)⟩
theorem lw_p95 : lw_okq (⟨"ElidedLocksModel", "touched", "(IZZZ)I"⟩, 17) := ⟨⟨by decide +kernel, by decide +kernel⟩, List.mem_of_getElem? (i := 1190) (by decide +kernel), List.mem_of_getElem? (i := 1642) (by decide +kernel), List.mem_of_getElem? (i := 1643) (by decide +kernel)⟩
def lw_privs_6 : List (MethodName × Nat) := [(⟨"ElidedLocksModel", "putsOut", "(I)Z"⟩, 17), (⟨"ElidedLocksModel", "goes", "(IZ)I"⟩, 17), (⟨"ElidedLocksModel", "areAllDone", "()Z"⟩, 17), (⟨"ElidedLocksModel", "doneOnes", "()I"⟩, 17), (⟨"ElidedLocksModel", "drawnOne", "()I"⟩, 17), (⟨"ElidedLocksModel", "drawOf", "(I)I"⟩, 17), (⟨"ElidedLocksModel", "nextOne", "()I"⟩, 17), (⟨"ElidedLocksModel", "fellOf", "(I)I"⟩, 17), (⟨"ElidedLocksModel", "noWord", "(I)Z"⟩, 17), (⟨"ElidedLocksModel", "leavers", "(I)I"⟩, 17), (⟨"ElidedLocksModel", "guessing", "()I"⟩, 17), (⟨"ElidedLocksModel", "keptAll", "()I"⟩, 17), (⟨"ElidedLocksModel", "heldLocks", "()I"⟩, 17), (⟨"ElidedLocksModel", "dueOf", "(I)I"⟩, 17), (⟨"ElidedLocksModel", "dueBy", "(I)I"⟩, 17), (⟨"ElidedLocksModel", "touched", "(IZZZ)I"⟩, 17)]
theorem lw_r6 : ∀ q ∈ lw_privs_6, lw_okq q := List.forall_mem_cons.mpr ⟨lw_p80, List.forall_mem_cons.mpr ⟨lw_p81, List.forall_mem_cons.mpr ⟨lw_p82, List.forall_mem_cons.mpr ⟨lw_p83, List.forall_mem_cons.mpr ⟨lw_p84, List.forall_mem_cons.mpr ⟨lw_p85, List.forall_mem_cons.mpr ⟨lw_p86, List.forall_mem_cons.mpr ⟨lw_p87, List.forall_mem_cons.mpr ⟨lw_p88, List.forall_mem_cons.mpr ⟨lw_p89, List.forall_mem_cons.mpr ⟨lw_p90, List.forall_mem_cons.mpr ⟨lw_p91, List.forall_mem_cons.mpr ⟨lw_p92, List.forall_mem_cons.mpr ⟨lw_p93, List.forall_mem_cons.mpr ⟨lw_p94, List.forall_mem_cons.mpr ⟨lw_p95, fun _ h => absurd h List.not_mem_nil⟩⟩⟩⟩⟩⟩⟩⟩⟩⟩⟩⟩⟩⟩⟩⟩
theorem lw_p96 : lw_okq (⟨"ElidedLocksModel", "heldBehind", "(III)I"⟩, 17) := ⟨⟨by decide +kernel, by decide +kernel⟩, List.mem_of_getElem? (i := 1190) (by decide +kernel), List.mem_of_getElem? (i := 1654) (by decide +kernel), List.mem_of_getElem? (i := 1655) (by decide +kernel)⟩
theorem lw_p97 : lw_okq (⟨"ElidedLocksModel", "partsOf", "(I)I"⟩, 17) := ⟨⟨by decide +kernel, by decide +kernel⟩, List.mem_of_getElem? (i := 1190) (by decide +kernel), List.mem_of_getElem? (i := 1662) (by decide +kernel), List.mem_of_getElem? (i := 1663) (by decide +kernel)⟩
theorem lw_p98 : lw_okq (⟨"ElidedLocksModel", "behindPart", "(II)I"⟩, 17) := ⟨⟨by decide +kernel, by decide +kernel⟩, List.mem_of_getElem? (i := 1190) (by decide +kernel), List.mem_of_getElem? (i := 1666) (by decide +kernel), List.mem_of_getElem? (i := 1667) (by decide +kernel)⟩
theorem lw_p99 : lw_okq (⟨"ElidedLocksModel", "orders", "(II)Z"⟩, 17) := ⟨⟨by decide +kernel, by decide +kernel⟩, List.mem_of_getElem? (i := 1190) (by decide +kernel), List.mem_of_getElem? (i := 1674) (by decide +kernel), List.mem_of_getElem? (i := 1675) (by decide +kernel)⟩
theorem lw_p100 : lw_okq (⟨"ElidedLocksModel", "isAsNow", "(I)Z"⟩, 17) := ⟨⟨by decide +kernel, by decide +kernel⟩, List.mem_of_getElem? (i := 1190) (by decide +kernel), List.mem_of_getElem? (i := 1678) (by decide +kernel), List.mem_of_getElem? (i := 1679) (by decide +kernel)⟩
theorem lw_p101 : lw_okq (⟨"ElidedLocksModel", "doesDeed", "(IIII)Z"⟩, 17) := ⟨⟨by decide +kernel, by decide +kernel⟩, List.mem_of_getElem? (i := 1190) (by decide +kernel), List.mem_of_getElem? (i := 1682) (by decide +kernel), List.mem_of_getElem? (i := 1683) (by decide +kernel)⟩
theorem lw_p102 : lw_okq (⟨"ElidedLocksModel", "putsWhole", "(II)V"⟩, 17) := ⟨⟨by decide +kernel, by decide +kernel⟩, List.mem_of_getElem? (i := 1190) (by decide +kernel), List.mem_of_getElem? (i := 1686) (by decide +kernel), List.mem_of_getElem? (i := 1687) (by decide +kernel)⟩
theorem lw_p103 : lw_okq (⟨"ElidedLocksModel", "prints", "(Ljava/lang/String;)V"⟩, 17) := ⟨⟨by decide +kernel, by decide +kernel⟩, List.mem_of_getElem? (i := 1190) (by decide +kernel), List.mem_of_getElem? (i := 1695) (by decide +kernel), List.mem_of_getElem? (i := 1696) (by decide +kernel)⟩
theorem lw_p104 : lw_okq (⟨"ElidedLocksModel", "printsDeed", "(II)V"⟩, 17) := ⟨⟨by decide +kernel, by decide +kernel⟩, List.mem_of_getElem? (i := 1190) (by decide +kernel), List.mem_of_getElem? (i := 1700) (by decide +kernel), List.mem_of_getElem? (i := 1701) (by decide +kernel)⟩
theorem lw_p105 : lw_okq (⟨"ElidedLocksModel", "printsNumber", "(I)V"⟩, 17) := ⟨⟨by decide +kernel, by decide +kernel⟩, List.mem_of_getElem? (i := 1190) (by decide +kernel), List.mem_of_getElem? (i := 1711) (by decide +kernel), List.mem_of_getElem? (i := 1712) (by decide +kernel)⟩
def lw_privs_7 : List (MethodName × Nat) := [(⟨"ElidedLocksModel", "heldBehind", "(III)I"⟩, 17), (⟨"ElidedLocksModel", "partsOf", "(I)I"⟩, 17), (⟨"ElidedLocksModel", "behindPart", "(II)I"⟩, 17), (⟨"ElidedLocksModel", "orders", "(II)Z"⟩, 17), (⟨"ElidedLocksModel", "isAsNow", "(I)Z"⟩, 17), (⟨"ElidedLocksModel", "doesDeed", "(IIII)Z"⟩, 17), (⟨"ElidedLocksModel", "putsWhole", "(II)V"⟩, 17), (⟨"ElidedLocksModel", "prints", "(Ljava/lang/String;)V"⟩, 17), (⟨"ElidedLocksModel", "printsDeed", "(II)V"⟩, 17), (⟨"ElidedLocksModel", "printsNumber", "(I)V"⟩, 17)]
theorem lw_r7 : ∀ q ∈ lw_privs_7, lw_okq q := List.forall_mem_cons.mpr ⟨lw_p96, List.forall_mem_cons.mpr ⟨lw_p97, List.forall_mem_cons.mpr ⟨lw_p98, List.forall_mem_cons.mpr ⟨lw_p99, List.forall_mem_cons.mpr ⟨lw_p100, List.forall_mem_cons.mpr ⟨lw_p101, List.forall_mem_cons.mpr ⟨lw_p102, List.forall_mem_cons.mpr ⟨lw_p103, List.forall_mem_cons.mpr ⟨lw_p104, List.forall_mem_cons.mpr ⟨lw_p105, fun _ h => absurd h List.not_mem_nil⟩⟩⟩⟩⟩⟩⟩⟩⟩⟩
def lw_privs : List (MethodName × Nat) := lw_privs_1 ++ (lw_privs_2 ++ (lw_privs_3 ++ (lw_privs_4 ++ (lw_privs_5 ++ (lw_privs_6 ++ (lw_privs_7))))))
def lw_tbl : List Cond := k2_sels lw_privs ++ tables_1
theorem lw_privs_ok : ∀ q ∈ lw_privs, lw_okq q := by
  show ∀ q ∈ lw_privs_1 ++ (lw_privs_2 ++ (lw_privs_3 ++ (lw_privs_4 ++ (lw_privs_5 ++ (lw_privs_6 ++ (lw_privs_7)))))), lw_okq q
  exact List.forall_mem_append.mpr ⟨lw_r1, List.forall_mem_append.mpr ⟨lw_r2, List.forall_mem_append.mpr ⟨lw_r3, List.forall_mem_append.mpr ⟨lw_r4, List.forall_mem_append.mpr ⟨lw_r5, List.forall_mem_append.mpr ⟨lw_r6, lw_r7⟩⟩⟩⟩⟩⟩
-- ===== end of PART A; then your names; then what follows =====
/-! ===== BEGIN words of one list among another's, by their places ===== -/
theorem goodIn_r {big : List Cond} (ws : List Cond) (ps : List Nat) (hp : ws = ps.filterMap (fun i => big[i]?)) (h : ws.all goodWord = true) : GoodIn big ws := by
  intro w hw
  have h1 := List.all_eq_true.mp h w hw
  rw [hp] at hw
  obtain ⟨i, -, hi⟩ := List.mem_filterMap.mp hw
  have hm : w ∈ big := by first | exact List.mem_of_getElem? hi | exact List.getElem?_mem hi
  exact ⟨hm, good_of_word h1⟩
theorem goodIn_app {big a b : List Cond} (ha : GoodIn big a) (hb : GoodIn big b) : GoodIn big (a ++ b) := fun w h => (List.mem_append.mp h).elim (ha w) (hb w)
theorem goodIn_ca {big a b : List Cond} {c : Cond} (ha : GoodIn big (c :: a)) (hb : GoodIn big b) : GoodIn big (c :: (a ++ b)) := fun w h => (List.mem_cons.mp h).elim (fun e => ha w (List.mem_cons.mpr (Or.inl e))) (fun h => (List.mem_append.mp h).elim (fun h => ha w (List.mem_cons.mpr (Or.inr h))) (hb w))
theorem goodIn_sub {big ws : List Cond} (hm : ∀ w ∈ ws, w ∈ big) (h : ws.all goodWord = true) : GoodIn big ws := fun w hw => ⟨hm w hw, good_of_word (List.all_eq_true.mp h w hw)⟩
/-! ===== END ===== -/

/-! ===== BEGIN exceptions that leave a method, and their catching by the caller (launches without stack traces) ===== -/
section VXA
/-! The laws vx_back, vx_callV, vx_callS, vx_callSW, vx_throw0, vx_throwS follow proofs of the library, with one case more: JvmDerived/Free/Laws.lean (Back.of_free), Shelf42/LK1.lean (callV, callS), Shelf/KitTraced.lean (throwNew0V, throwNewS). -/
/-- where a method has thrown q: the class by its name, the cell, what was written, the world -/
def vx_T (XC : String → State → State → Prop) (st : State) (q : Addr) (t : State) (mc ms : Nat) (free : Addr → Prop) : Prop :=
  ∃ (E : String) (ce : Cell) (L : List Loc), XC E st t ∧ t.heap[q]? = some ce ∧ ce.vm = .none ∧ st.vm.findClass E = some ce.cls ∧ st.WarmedH t.vm ∧ st.sameButNew ({ t with vm := st.vm } : State) L mc ms ∧ ∀ z ∈ L, free z.base
def vx_Q (Qc : Array Value → State → Outcome → State → Prop) (XC : String → State → State → Prop) (mc ms : Nat) (free : Addr → Prop) : Array Value → State → Outcome → State → Prop := fun a st o t =>
  (Qc a st o t ∧ ∃ L, FrameEnd st o t L mc ms ∧ ∀ q ∈ L, free q.base) ∨ ∃ q, o = .threw q ∧ vx_T XC st q t mc ms free
/-- a callee that returns or throws -/
def vx_Met (l : Launch) (y : MethodName) (ws : List Cond) (rm : Room) (Pc : Array Value → State → Prop) (Qc : Array Value → State → Outcome → State → Prop) (XC : String → State → State → Prop) (mc ms : Nat) (free : Addr → Prop) : Prop :=
  MetFree l y (headSpec ws rm) Pc (fun _ _ _ _ _ => True) (vx_Q Qc XC mc ms free)
def vx_Post (XC : String → State → State → Prop) (mc ms : Nat) (free : Addr → Prop) : Pt → Array Value → Addr → Pt → Prop := fun A a q B =>
  ∃ (g : JFrame) (mk : MethodId) (t : State) (L : List Loc) (E : String) (ce : Cell), B.U.heap = t.heap ∧ B.U.vm = t.vm ∧ XC E (A.U.calling g mk a) t ∧ t.heap[q]? = some ce ∧ ce.vm = .none ∧ A.U.vm.findClass E = some ce.cls ∧ B.locs = A.locs ++ L ∧ (∀ z ∈ L, free z.base) ∧ B.cells = A.cells + mc ∧ B.slots = A.slots + ms
def vx_Back (l : Launch) (R : Room) (p : Program) (e : Env) (below : List Frame) (s : State) (sargs : Array Value) (y : MethodName) (len W9 : Nat)
    (Pre : Pt → Array Value → Prop) (Post : Pt → Array Value → Option Value → Pt → Prop) (PostX : Pt → Array Value → Addr → Pt → Prop) : Prop :=
  ∀ (m : MethodId) (meth : Method) (c : Code) (A : Pt) (g : JFrame) (ig : Instr) (mk : MethodId) (a : Array Value),
    Stand p l e R s m sargs below meth c A.U A.locs A.cells A.slots → g.method = m → g.locals.size = c.maxLocals → decode c.code g.pc = .ok (ig, len) →
    2 * g.monitorRoom + (g.stack.map fun v => v.category).sum ≤ W9 → A.U.methodNamed? y = some mk → Pre A a →
    (∃ (v : Option Value) (B : Pt), Stand p l e R s m sargs below meth c B.U B.locs B.cells B.slots ∧ Post A a v B ∧
      Steps p.tables e below (doInvoke e (A.U.setTop g) [] mk a).1 (B.U.setTop { g with pc := g.pc + len, stack := v.toList ++ g.stack })) ∨
    (∃ (q : Addr) (B : Pt), Stand p l e R s m sargs below meth c B.U B.locs B.cells B.slots ∧ PostX A a q B ∧
      Steps p.tables e below (doInvoke e (A.U.setTop g) [] mk a).1 ((B.U.setTop g).pushFrame (.throwing q)))
section Payer
variable {l : Launch} {R : Room} {p : Program} {e : Env} {below : List Frame} {s : State} {sargs : Array Value} {y : MethodName} {len W9 : Nat}
theorem vx_back {ws : List Cond} {rm : Room} {Pc : Array Value → State → Prop} {Qc : Array Value → State → Outcome → State → Prop} {XC : String → State → State → Prop} {mc ms : Nat} {free : Addr → Prop} {bytes : ByteArray} {maxL : Nat} {ret : Option FieldType}
    (hM : vx_Met l y ws rm Pc Qc XC mc ms free) (hblind : FrameBlind Pc) (hrc : rm.cells = mc) (hrs : rm.slots = ms)
    (hframes : rm.frames + 1 ≤ R.frames) (hlocals : W9 + (maxL + 11) + rm.locals ≤ R.locals)
    (hws : ∀ w ∈ ws, ∀ a' U, s.WarmedH U.vm → w.before a' U = true) (hcode : Cond.code y bytes maxL ret ∈ ws) (hinit : ∀ a' U, s.WarmedH U.vm → (Cond.initialized y.cls).before a' U = true) :
    vx_Back l R p e below s sargs y len W9 (PreOf R mc ms Pc) (PostOf Qc mc ms free) (vx_Post XC mc ms free) := by
  intro m meth c A g ig mk a X hg hsize hdg hW hn hp
  have h1 : (headSpec ws rm).pre.before a A.U = true := atoms_intro fun w hw => hws w hw _ _ X.warmed
  have h2 : (Cond.code y bytes maxL ret).before a A.U = true := hws _ hcode _ _ X.warmed
  have h3 : (Cond.initialized y.cls).before a A.U = true := hinit _ _ X.warmed
  have h4 : A.cells + (headSpec ws rm).room.cells ≤ R.cells := by rw [show (headSpec ws rm).room.cells = mc from hrc]; exact hp.1
  have h5 : A.slots + (headSpec ws rm).room.slots ≤ R.slots := by rw [show (headSpec ws rm).room.slots = ms from hrs]; exact hp.2.1
  have hPc : Pc a (A.U.calling g mk a) := hblind _ _ _ _ hp.2.2
  obtain ⟨U, Ls, c0, s0⟩ := A
  dsimp only [Pt.U, Pt.locs, Pt.cells, Pt.slots] at h1 h2 h3 h4 h5 X hn hPc ⊢
  obtain ⟨methY, cY, hmY, hcY, -, hlY, -, -, -, -⟩ := Cond.code_spec hn h2
  obtain ⟨kY, hkY, -⟩ := className_of_methodNamed hn
  have hinitY : kY.init = .initialized := Cond.initialized_spec (findClass_of_methodNamed hn) hkY h3
  have h : At U g.method c below := by rw [hg]; exact X.here
  have hlocals9 : W9 + (maxL + 11) + (headSpec ws rm).room.locals ≤ R.locals := hlocals
  have happ : (headSpec ws rm).appliesLoose y e.platform (U.calling g mk a) = true :=
    Spec.appliesLoose_calling (g := g) h hdg hn hkY hinitY
      (X.room_calling (g := g) (R' := (headSpec ws rm).room) hsize hmY hcY hframes (by rw [hlY]; omega) h4 h5) h1
  obtain ⟨mid, hmid⟩ := h.above
  have hfr : (U.setTop g).frames = (.java g :: mid) ++ below := by rw [State.frames_setTop' g h.top, hmid]; rfl
  obtain ⟨o, s₂, hsteps, -, hend, hq⟩ := Steps.callFree hM p X.admits X.cas X.clock (acts := []) hfr happ hPc trivial
  have hq' : vx_Q Qc XC mc ms free a (U.calling g mk a) o s₂ := hq
  rw [State.frames_setTop' g h.top] at hend
  obtain ⟨g₀, hg0⟩ := Option.isSome_iff_exists.mp h.top
  obtain ⟨r, hr⟩ := State.topJava?_eq_some.mp hg0
  have hr' : (({ U with heap := s₂.heap, slotsUsed := s₂.slotsUsed } : State).setVm s₂.vm).frames = .java g₀ :: r := hr
  rcases hq' with ⟨hqc, L, hfe, hL⟩ | ⟨q, rfl, E, ce, L, hx, hce, hcv, hcl, hW₂, hsm, hL⟩
  · obtain ⟨⟨v, rfl⟩, hW₂, e2, q2, q3, q4, q5, q6⟩ := id hfe
    have e3 : s₂ = ({ (U.calling g mk a).setFrames s₂.frames with heap := s₂.heap, slotsUsed := s₂.slotsUsed } : State).setVm s₂.vm := by
      have : s₂ = ({ s₂ with vm := (U.calling g mk a).vm } : State).setVm s₂.vm := rfl
      rw [e2] at this
      exact this
    obtain ⟨c₂, i₂, len₂, hc₂, hd₂, hf₂⟩ := hend
    have hW' : U.WarmedH s₂.vm := hW₂
    have hcc : c₂ = c := by
      have h1 : s₂.code? g.method = U.code? g.method := by
        rw [State.code?_eq, State.code?_eq, hW'.alike.method?]
      exact Option.some.inj (hc₂.symm.trans (h1.trans h.code))
    subst hcc
    have hlen : len₂ = len := by rw [hdg] at hd₂; cases hd₂; rfl
    subst hlen
    have hs₂ : s₂ = (({ U with heap := s₂.heap, slotsUsed := s₂.slotsUsed } : State).setVm s₂.vm).setTop { g with pc := g.pc + len₂, stack := v.toList ++ g.stack } := by
      refine e3.trans ?_
      rw [hf₂, State.calling_eq h.top, State.setFrames_setFrames, State.setTop_of_frames _ hr', hr]
      rfl
    have hsame : U.sameButNew ({ U with heap := s₂.heap, slotsUsed := s₂.slotsUsed } : State) L mc ms := by
      refine ⟨?_, q2, q3, q4, q5, q6⟩
      obtain ⟨t, ht, -⟩ := State.frames_cons hr
      show ({ U with heap := s₂.heap, slotsUsed := s₂.slotsUsed } : State) = { U.setFrames U.frames with heap := s₂.heap, slotsUsed := s₂.slotsUsed }
      rw [State.setFrames_self ht]
    subst hg
    refine Or.inl ⟨v, ⟨(({ U with heap := s₂.heap, slotsUsed := s₂.slotsUsed } : State).setVm s₂.vm), Ls ++ L, c0 + mc, s0 + ms⟩,
      ⟨X.admits, X.cas, X.clock, X.frames, X.room, X.hears, X.method, X.code, (X.here.setHeapUsed s₂.heap s₂.slotsUsed).setVm hW'.alike, X.tail, State.WarmedH.trans X.warmed hW', X.limits, X.bytes, X.same.trans (hsame.setVm s.vm)⟩,
      ⟨g, mk, s₂, L, rfl, rfl, hqc, rfl, hL, rfl, rfl⟩, ?_⟩
    show Steps p.tables e below _ ((({ U with heap := s₂.heap, slotsUsed := s₂.slotsUsed } : State).setVm s₂.vm).setTop { g with pc := g.pc + len₂, stack := v.toList ++ g.stack })
    rw [← hs₂]
    exact hsteps
  · obtain ⟨e2, q2, q3, q4, q5, q6⟩ := id hsm
    have e3 : s₂ = ({ (U.calling g mk a).setFrames s₂.frames with heap := s₂.heap, slotsUsed := s₂.slotsUsed } : State).setVm s₂.vm := by
      have : s₂ = ({ s₂ with vm := (U.calling g mk a).vm } : State).setVm s₂.vm := rfl
      rw [e2] at this
      exact this
    have hf₂ : s₂.frames = .throwing q :: .java g :: U.frames.tail := hend
    have hW' : U.WarmedH s₂.vm := hW₂
    have hs₂ : s₂ = ((({ U with heap := s₂.heap, slotsUsed := s₂.slotsUsed } : State).setVm s₂.vm).setTop g).pushFrame (.throwing q) := by
      refine e3.trans ?_
      rw [hf₂, State.calling_eq h.top, State.setFrames_setFrames, State.pushFrame, State.frames_setTop _ hr', State.setTop_of_frames _ hr', State.setFrames_setFrames, hr]
      rfl
    have hsame : U.sameButNew ({ U with heap := s₂.heap, slotsUsed := s₂.slotsUsed } : State) L mc ms := by
      refine ⟨?_, q2, q3, q4, q5, q6⟩
      obtain ⟨t, ht, -⟩ := State.frames_cons hr
      show ({ U with heap := s₂.heap, slotsUsed := s₂.slotsUsed } : State) = { U.setFrames U.frames with heap := s₂.heap, slotsUsed := s₂.slotsUsed }
      rw [State.setFrames_self ht]
    subst hg
    refine Or.inr ⟨q, ⟨(({ U with heap := s₂.heap, slotsUsed := s₂.slotsUsed } : State).setVm s₂.vm), Ls ++ L, c0 + mc, s0 + ms⟩,
      ⟨X.admits, X.cas, X.clock, X.frames, X.room, X.hears, X.method, X.code, (X.here.setHeapUsed s₂.heap s₂.slotsUsed).setVm hW'.alike, X.tail, State.WarmedH.trans X.warmed hW', X.limits, X.bytes, X.same.trans (hsame.setVm s.vm)⟩,
      ⟨g, mk, s₂, L, E, ce, rfl, rfl, hx, hce, hcv, hcl, rfl, hL, rfl, rfl⟩, ?_⟩
    show Steps p.tables e below _ (((({ U with heap := s₂.heap, slotsUsed := s₂.slotsUsed } : State).setVm s₂.vm).setTop g).pushFrame (.throwing q))
    rw [← hs₂]
    exact hsteps
end Payer
section Calls
variable {p : Program} {l : Launch} {e : Env} {R : Room} {s : State} {m : MethodId} {args : Array Value} {below : List Frame} {meth : Method} {c : Code} {T : State} {locs : List Loc} {cells slots : Nat}
theorem vx_callV (X : Stand p l e R s m args below meth c T locs cells slots) (hexec : p.tables.exec = Jvm.exec) {own C : String} {index : Nat} {y : MethodName} {bytes : ByteArray} {maxL : Nat} {ret : Option FieldType}
    (hown : s.vm.findClass own = some m.cls) (hlink : (Cond.methodLink own index y).before args s = true) (hinst : (Cond.instanceMethod y).before args s = true) (hsel : (Cond.selects C y y).before args s = true)
    (hcode : (Cond.code y bytes maxL ret).before args s = true) (hy : y.cls ≠ "java/lang/invoke/MethodHandle" ∧ y.cls ≠ "java/lang/invoke/VarHandle")
    {W9 : Nat} {Pre : Pt → Array Value → Prop} {Post : Pt → Array Value → Option Value → Pt → Prop} {PostX : Pt → Array Value → Addr → Pt → Prop} (hK : vx_Back l R p e below s args y 3 W9 Pre Post PostX)
    {b : Addr} {cellB : Cell} (hcell : T.heap[b]? = some cellB) (hobj : cellB.vm.isStatics = false) (hcls : s.vm.findClass C = some cellB.cls)
    {g : JFrame} (hg : g.method = m) (hsize : g.locals.size = c.maxLocals) {argsL rest : List Value} (hlen : ∀ sig, parseMethodDescriptor y.desc = some sig → argsL.length = sig.parameters.length)
    (hstack : g.stack = argsL.reverse ++ .ref b :: rest) (hW : 2 * g.monitorRoom + (rest.map fun v => v.category).sum ≤ W9) (hdg : decode c.code g.pc = .ok (.invokevirtual index, 3))
    (hpre : ∀ vm₁, s.WarmedH vm₁ → Pre ⟨T.setVm vm₁, locs, cells, slots⟩ (Value.ref b :: argsL).toArray) :
    (∃ (v : Option Value) (vm₁ : Vm) (B : Pt), s.WarmedH vm₁ ∧ Stand p l e R s m args below meth c B.U B.locs B.cells B.slots ∧ Post ⟨T.setVm vm₁, locs, cells, slots⟩ (Value.ref b :: argsL).toArray v B ∧
      ∀ target, Steps p.tables e below (B.U.setTop { g with pc := g.pc + 3, stack := v.toList ++ rest }) target → Steps p.tables e below (T.setTop g) target) ∨
    (∃ (q : Addr) (vm₁ : Vm) (B : Pt), s.WarmedH vm₁ ∧ Stand p l e R s m args below meth c B.U B.locs B.cells B.slots ∧ PostX ⟨T.setVm vm₁, locs, cells, slots⟩ (Value.ref b :: argsL).toArray q B ∧
      Steps p.tables e below (T.setTop g) ((B.U.setTop { g with stack := rest }).pushFrame (.throwing q))) := by
  obtain ⟨mk, methM, hnamed, hmethM, hstM, habM⟩ := Cond.instanceMethod_spec hinst
  obtain ⟨methM', cM, hmethM', -, -, -, -, -, -, hsigM⟩ := Cond.code_spec hnamed hcode
  cases hmethM.symm.trans hmethM'
  obtain ⟨c2, r2, m2, q1, q2, q3, q4, kP, hkP, hkPi⟩ := Cond.selects_spec hsel
  cases hcls.symm.trans q1
  cases (State.methodFound?_of_named hnamed hy).symm.trans q2
  cases hnamed.symm.trans q3
  have hselP : selectMethod e.platform s.vm cellB.cls mk = .method mk := by rw [Launch.admits_selectMethod X.admits]; exact q4
  obtain ⟨vm₁, X₁, hstep₁⟩ := X.invokevirtual hexec hown hlink hnamed hmethM hstM hkP hkPi hy (a := b) (cell := cellB) hcell
    (fun z h => by rw [h] at hobj; cases hobj) hselP hmethM habM hkP hkPi (g := g) hg (argsL := argsL) (rest := rest) (hlen _ hsigM) hstack hdg
  rcases hK m meth c ⟨T.setVm vm₁, locs, cells, slots⟩ { g with stack := rest } (.invokevirtual index) mk (Value.ref b :: argsL).toArray X₁ hg hsize hdg hW (X₁.named hnamed) (hpre vm₁ X₁.warmed) with ⟨v, B, X', hpost, hsteps⟩ | ⟨q, B, X', hpost, hsteps⟩
  · exact Or.inl ⟨v, vm₁, B, X₁.warmed, X', hpost, fun target h => hstep₁ _ fun acts => by rw [doInvoke_state]; exact hsteps.trans h⟩
  · exact Or.inr ⟨q, vm₁, B, X₁.warmed, X', hpost, hstep₁ _ fun acts => by rw [doInvoke_state]; exact hsteps⟩
theorem vx_callS (X : Stand p l e R s m args below meth c T locs cells slots) (hexec : p.tables.exec = Jvm.exec) {own : String} {index : Nat} {y : MethodName} {bytes : ByteArray} {maxL : Nat} {ret : Option FieldType}
    (hown : s.vm.findClass own = some m.cls) (hlink : (Cond.methodLink own index y).before args s = true) (hstat : (Cond.static y).before args s = true) (hinit : (Cond.initialized y.cls).before args s = true)
    (hcode : (Cond.code y bytes maxL ret).before args s = true) (hy : y.cls ≠ "java/lang/invoke/MethodHandle" ∧ y.cls ≠ "java/lang/invoke/VarHandle")
    {W9 : Nat} {Pre : Pt → Array Value → Prop} {Post : Pt → Array Value → Option Value → Pt → Prop} {PostX : Pt → Array Value → Addr → Pt → Prop} (hK : vx_Back l R p e below s args y 3 W9 Pre Post PostX)
    {g : JFrame} (hg : g.method = m) (hsize : g.locals.size = c.maxLocals) {argsL rest : List Value} (hlen : ∀ sig, parseMethodDescriptor y.desc = some sig → argsL.length = sig.parameters.length)
    (hstack : g.stack = argsL.reverse ++ rest) (hW : 2 * g.monitorRoom + (rest.map fun v => v.category).sum ≤ W9) (hdg : decode c.code g.pc = .ok (.invokestatic index, 3))
    (hpre : ∀ vm₁, s.WarmedH vm₁ → Pre ⟨T.setVm vm₁, locs, cells, slots⟩ argsL.toArray) :
    (∃ (v : Option Value) (vm₁ : Vm) (B : Pt), s.WarmedH vm₁ ∧ Stand p l e R s m args below meth c B.U B.locs B.cells B.slots ∧ Post ⟨T.setVm vm₁, locs, cells, slots⟩ argsL.toArray v B ∧
      ∀ target, Steps p.tables e below (B.U.setTop { g with pc := g.pc + 3, stack := v.toList ++ rest }) target → Steps p.tables e below (T.setTop g) target) ∨
    (∃ (q : Addr) (vm₁ : Vm) (B : Pt), s.WarmedH vm₁ ∧ Stand p l e R s m args below meth c B.U B.locs B.cells B.slots ∧ PostX ⟨T.setVm vm₁, locs, cells, slots⟩ argsL.toArray q B ∧
      Steps p.tables e below (T.setTop g) ((B.U.setTop { g with stack := rest }).pushFrame (.throwing q))) := by
  obtain ⟨mk, hnamed⟩ := Cond.code_named hcode
  obtain ⟨methM, cM, hmethM, -, -, -, -, -, -, hsigM⟩ := Cond.code_spec hnamed hcode
  have hstatic : methM.isStatic = true := Cond.static_spec hnamed hmethM hstat
  obtain ⟨kP, hkP, -⟩ := className_of_methodNamed hnamed
  have hinitP : kP.init = .initialized := Cond.initialized_spec (findClass_of_methodNamed hnamed) hkP hinit
  obtain ⟨vm₁, X₁, hstep₁⟩ := X.invokestatic hexec hown hlink hnamed hmethM hstatic hkP hinitP hy (g := g) hg (argsL := argsL) (rest := rest) (hlen _ hsigM) hstack hdg
  rcases hK m meth c ⟨T.setVm vm₁, locs, cells, slots⟩ { g with stack := rest } (.invokestatic index) mk argsL.toArray X₁ hg hsize hdg hW (X₁.named hnamed) (hpre vm₁ X₁.warmed) with ⟨v, B, X', hpost, hsteps⟩ | ⟨q, B, X', hpost, hsteps⟩
  · exact Or.inl ⟨v, vm₁, B, X₁.warmed, X', hpost, fun target h => hstep₁ _ fun acts => by rw [doInvoke_state]; exact hsteps.trans h⟩
  · exact Or.inr ⟨q, vm₁, B, X₁.warmed, X', hpost, hstep₁ _ fun acts => by rw [doInvoke_state]; exact hsteps⟩
end Calls
theorem vx_cls {s : State} {T : State} {vm₁ : Vm} {E : String} {k : ClassId} (hW : s.WarmedH vm₁) (h : (T.setVm vm₁).vm.findClass E = some k) : s.vm.findClass E = some k := by
  have h1 : vm₁.findClass E = some k := h
  rw [hW.alike.findClass] at h1
  exact h1
/-- the method's frame g, with q thrown over it -/
def vx_W (p : Program) (l : Launch) (e : Env) (R : Room) (s : State) (m : MethodId) (args : Array Value) (below : List Frame) (meth : Method) (c : Code) (H : Heap) (locs : List Loc) (cells slots : Nat) (Q : State → Prop) (g : JFrame) (q : Addr) : Prop :=
  ∀ T : State, T.heap = H → Stand p l e R s m args below meth c T locs cells slots → ∃ t, Steps p.tables e below ((T.setTop g).pushFrame (.throwing q)) t ∧ Q t
def vx_Run (p : Program) (l : Launch) (e : Env) (R : Room) (s : State) (m : MethodId) (args : Array Value) (below : List Frame) (meth : Method) (c : Code) (H : Heap) (locs : List Loc) (cells slots mc ms : Nat) (g : JFrame) (rest : List Value) (Qa : State → Outcome → State → Prop) (XC : String → State → State → Prop) (free : Addr → Prop) : Prop :=
  ∀ T : State, T.heap = H → Stand p l e R s m args below meth c T locs cells slots →
    (∃ (v : Option Value) (st₀ t T' : State) (L : List Loc), st₀.heap = H ∧ Stand p l e R s m args below meth c T' (locs ++ L) (cells + mc) (slots + ms) ∧ (∀ q ∈ L, free q.base) ∧ T'.heap = t.heap ∧ T'.vm = t.vm ∧ Qa st₀ (.returned v) t ∧
      Goes p e below T g T' { g with pc := g.pc + 3, stack := v.toList ++ rest }) ∨
    (∃ (q : Addr) (st₀ t T' : State) (L : List Loc) (E : String) (ce : Cell), st₀.heap = H ∧ Stand p l e R s m args below meth c T' (locs ++ L) (cells + mc) (slots + ms) ∧ (∀ z ∈ L, free z.base) ∧ T'.heap = t.heap ∧ T'.vm = t.vm ∧ XC E st₀ t ∧ t.heap[q]? = some ce ∧ ce.vm = .none ∧ s.vm.findClass E = some ce.cls ∧
      Steps p.tables e below (T.setTop g) ((T'.setTop { g with stack := rest }).pushFrame (.throwing q)))
def vx_X {S : Type} (px : S → Prop) (B : String → S → State → Prop) (A : Nat → Prop) : String → State → State → Prop := fun E st t => ∃ u : S, px u ∧ B E u t ∧ va_F A st t
section Runs
variable {p : Program} {l : Launch} {e : Env} {R : Room} {s : State} {m : MethodId} {args : Array Value} {below : List Frame} {meth : Method} {c : Code} {H : Heap} {locs : List Loc} {cells slots : Nat}
variable {y : MethodName} {bytes cc : ByteArray} {maxL nL mc ms n index : Nat} {ret : Option FieldType} {ws : List Cond} {rm : Room} {Pc : Array Value → State → Prop} {Qc : Array Value → State → Outcome → State → Prop} {XC : String → State → State → Prop} {free : Addr → Prop} {Ts : List Cond} {own C : String} {b : Addr} {As rest : List Value} {g : JFrame}
theorem vx_callBack (cb : CallB R s args own index y bytes maxL ret ws rm mc ms n) (hM : vx_Met l y ws rm Pc Qc XC mc ms free) (hbl : FrameBlind Pc) : vx_Back l R p e below s args y 3 8 (PreOf R mc ms Pc) (PostOf Qc mc ms free) (vx_Post XC mc ms free) := by
  obtain ⟨hrc, hrs, hfr, hlo, hws, hcw, -, hini, -⟩ := cb
  exact vx_back (bytes := bytes) (maxL := maxL) (ret := ret) hM hbl hrc hrs hfr hlo hws hcw (fun a' U hW => word_at hW (Or.inl (by first | rfl | simp [Cond.onTables, Cond.keeps, Cond.steady])) hini)
theorem vx_runV (S : CallFix p m c cc nL s args Ts own) (hM : vx_Met l y ws rm Pc Qc XC mc ms free) (cw : CallW R s args own C index y bytes maxL ret ws rm mc ms n) (hp : PreV s H C b Pc As)
    (hg : g.method = m) (hn : As.length = n) (hsize : g.locals.size = nL) (hstack : g.stack = As.reverse ++ .ref b :: rest) (hW : 2 * g.monitorRoom + (rest.map fun v => v.category).sum ≤ 8) (hdg : decode cc g.pc = .ok (.invokevirtual index, 3)) (hf : cells + mc ≤ R.cells ∧ slots + ms ≤ R.slots) :
    vx_Run p l e R s m args below meth c H locs cells slots mc ms g rest (Qc (Value.ref b :: As).toArray) XC free := by
  have hK : vx_Back l R p e below s args y 3 8 (PreOf R mc ms Pc) (PostOf Qc mc ms free) (vx_Post XC mc ms free) := vx_callBack cw.1 hM hp.1
  obtain ⟨⟨-, -, -, -, -, -, hcode, -, hy, hlen, hl⟩, hin, hse⟩ := cw
  obtain ⟨hx, hb, hml, ho, -⟩ := S
  obtain ⟨-, ⟨cellB, hcB, hoB, hclB⟩, hPc⟩ := hp
  intro T hT X
  rcases vx_callV X hx (C := C) (bytes := bytes) (maxL := maxL) (ret := ret) ho hl hin hse hcode hy hK (by rw [hT]; exact hcB) hoB hclB hg (hsize.trans hml.symm) (argsL := As) (rest := rest) (fun sig h => hn.trans (hlen sig h)) hstack hW (by rw [hb]; exact hdg)
    (fun vm₁ hW₁ => ⟨hf.1, hf.2, hPc (T.setVm vm₁) hT hW₁⟩) with ⟨v, vm₁, ⟨U', l2, c2, s2⟩, hW₁, X', ⟨g', mk, t, L, e1, e2, hq, h1, hL, h2, h3⟩, st⟩ | ⟨q, vm₁, ⟨U', l2, c2, s2⟩, hW₁, X', ⟨g', mk, t, L, E, ce, e1, e2, hq, hce, hcv, hcl, h1, hL, h2, h3⟩, st⟩
  · dsimp only [Pt.U, Pt.locs, Pt.cells, Pt.slots] at X' e1 e2 h1 h2 h3 st
    subst h1; subst h2; subst h3
    exact Or.inl ⟨v, (T.setVm vm₁).calling g' mk (Value.ref b :: As).toArray, t, U', L, hT, X', hL, e1, e2, hq, st⟩
  · dsimp only [Pt.U, Pt.locs, Pt.cells, Pt.slots] at X' e1 e2 h1 h2 h3 st hcl
    subst h1; subst h2; subst h3
    exact Or.inr ⟨q, (T.setVm vm₁).calling g' mk (Value.ref b :: As).toArray, t, U', L, E, ce, hT, X', hL, e1, e2, hq, hce, hcv, vx_cls hW₁ hcl, st⟩
theorem vx_runS (S : CallFix p m c cc nL s args Ts own) (hM : vx_Met l y ws rm Pc Qc XC mc ms free) (cw : CallB R s args own index y bytes maxL ret ws rm mc ms n ∧ (Cond.static y).before args s = true) (hp : PreS s H Pc As)
    (hg : g.method = m) (hn : As.length = n) (hsize : g.locals.size = nL) (hstack : g.stack = As.reverse ++ rest) (hW : 2 * g.monitorRoom + (rest.map fun v => v.category).sum ≤ 8) (hdg : decode cc g.pc = .ok (.invokestatic index, 3)) (hf : cells + mc ≤ R.cells ∧ slots + ms ≤ R.slots) :
    vx_Run p l e R s m args below meth c H locs cells slots mc ms g rest (Qc As.toArray) XC free := by
  have hK : vx_Back l R p e below s args y 3 8 (PreOf R mc ms Pc) (PostOf Qc mc ms free) (vx_Post XC mc ms free) := vx_callBack cw.1 hM hp.1
  obtain ⟨⟨-, -, -, -, -, -, hcode, hini, hy, hlen, hl⟩, hstt⟩ := cw
  obtain ⟨hx, hb, hml, ho, -⟩ := S
  intro T hT X
  rcases vx_callS X hx (bytes := bytes) (maxL := maxL) (ret := ret) ho hl hstt hini hcode hy hK hg (hsize.trans hml.symm) (argsL := As) (rest := rest) (fun sig h => hn.trans (hlen sig h)) hstack hW (by rw [hb]; exact hdg)
    (fun vm₁ hW₁ => ⟨hf.1, hf.2, hp.2 (T.setVm vm₁) hT hW₁⟩) with ⟨v, vm₁, ⟨U', l2, c2, s2⟩, hW₁, X', ⟨g', mk, t, L, e1, e2, hq, h1, hL, h2, h3⟩, st⟩ | ⟨q, vm₁, ⟨U', l2, c2, s2⟩, hW₁, X', ⟨g', mk, t, L, E, ce, e1, e2, hq, hce, hcv, hcl, h1, hL, h2, h3⟩, st⟩
  · dsimp only [Pt.U, Pt.locs, Pt.cells, Pt.slots] at X' e1 e2 h1 h2 h3 st
    subst h1; subst h2; subst h3
    exact Or.inl ⟨v, (T.setVm vm₁).calling g' mk As.toArray, t, U', L, hT, X', hL, e1, e2, hq, st⟩
  · dsimp only [Pt.U, Pt.locs, Pt.cells, Pt.slots] at X' e1 e2 h1 h2 h3 st hcl
    subst h1; subst h2; subst h3
    exact Or.inr ⟨q, (T.setVm vm₁).calling g' mk As.toArray, t, U', L, E, ce, hT, X', hL, e1, e2, hq, hce, hcv, vx_cls hW₁ hcl, st⟩
end Runs
section Rows
variable {p : Program} {l : Launch} {e : Env} {R : Room} {s : State} {m : MethodId} {args : Array Value} {below : List Frame} {meth : Method} {c : Code} {H : Heap} {locs : List Loc} {cells slots : Nat} {Q : State → Prop}
variable {mc ms : Nat} {free : Addr → Prop} {A0 A1 : Nat → Prop} {H0 : Heap} {a : Array Value} {pc : Nat} {ls : Array Slot} {st0 rest : List Value}
theorem vx_keep {st₀ t T' : State} {L : List Loc} (h0 : st₀.heap = H) (e1 : T'.heap = t.heap) (hS : va_S A0 H0 H locs) (hA : ∀ q, q < H.size → A1 q → A0 q) (hf : ∀ q, free q → A0 q) (hL : ∀ q ∈ L, free q.base) (hF : va_F A1 st₀ t) :
    H.size ≤ T'.heap.size ∧ (∀ q : Nat, q < H.size → ¬ A1 q → T'.heap[q]? = H[q]?) ∧ va_S A0 H0 T'.heap (locs ++ L) := by
  obtain ⟨hz, hk⟩ := hF
  rw [h0] at hz hk
  exact ⟨by rw [e1]; exact hz, fun q h1 h2 => by rw [e1]; exact hk q h1 h2,
    ⟨Nat.le_trans hS.1 (by rw [e1]; exact hz), fun q h1 h2 => by rw [e1, hk q (Nat.lt_of_lt_of_le h1 hS.1) (fun z => h2 (hA q (Nat.lt_of_lt_of_le h1 hS.1) z))]; exact hS.2.1 q h1 h2, fun q hq => by
      rcases List.mem_append.mp hq with h | h
      · exact hS.2.2 q h
      · exact hf _ (hL q h)⟩⟩
theorem vx_calli {S SX : Type} {post : Int32 → S → Prop} {px : SX → Prop} {B : S → State → Prop} {BX : String → SX → State → Prop} {AX : Nat → Prop} (hr : vx_Run p l e R s m args below meth c H locs cells slots mc ms (F0 m pc ls st0) rest (va_Qi post B A1 a) (vx_X px BX AX) free) (hS : va_S A0 H0 H locs) (hA : ∀ q, q < H.size → A1 q → A0 q) (hf : ∀ q, free q → A0 q) (hAX : ∀ q, q < H.size → AX q → A0 q)
    (kx : ∀ (E : String) (ce : Cell) (q9 : Addr) (u : SX) (t : State) (H1 : Heap) (locs1 : List Loc), t.heap = H1 → s.vm.Alike t.vm → px u → BX E u t → H.size ≤ H1.size → (∀ q : Nat, q < H.size → ¬ AX q → H1[q]? = H[q]?) → va_S A0 H0 H1 locs1 → H1[q9]? = some ce → ce.vm = .none → s.vm.findClass E = some ce.cls → vx_W p l e R s m args below meth c H1 locs1 (cells + mc) (slots + ms) Q (F0 m pc ls rest) q9)
    (kk : ∀ (r : Int32) (u : S) (t : State) (H1 : Heap) (locs1 : List Loc), t.heap = H1 → s.vm.Alike t.vm → post r u → B u t → H.size ≤ H1.size → (∀ q : Nat, q < H.size → ¬ A1 q → H1[q]? = H[q]?) → va_S A0 H0 H1 locs1 → W p l e R s m args below meth c H1 locs1 (cells + mc) (slots + ms) Q (F0 m (pc + 3) ls (.int r :: rest))) : W p l e R s m args below meth c H locs cells slots Q (F0 m pc ls st0) := by
  intro T hT X
  rcases hr T hT X with ⟨v, st₀, t, T', L, h0, X', hL, e1, e2, ⟨⟨r, u, hv, hp, hb⟩, hF⟩, st⟩ | ⟨q, st₀, t, T', L, E, ce, h0, X', hL, e1, e2, ⟨u, hp, hb, hF⟩, hce, hcv, hcl, st⟩
  · cases hv
    obtain ⟨k1, k2, k3⟩ := vx_keep h0 e1 hS hA hf hL hF
    obtain ⟨t2, a1, b1⟩ := kk r u t T'.heap (locs ++ L) e1.symm (by rw [← e2]; exact X'.warmed.alike) hp hb k1 k2 k3 T' rfl X'
    exact ⟨t2, st t2 a1, b1⟩
  · obtain ⟨k1, k2, k3⟩ := vx_keep h0 e1 hS hAX hf hL hF
    obtain ⟨t2, a1, b1⟩ := kx E ce q u t T'.heap (locs ++ L) e1.symm (by rw [← e2]; exact X'.warmed.alike) hp hb k1 k2 k3 (by rw [e1]; exact hce) hcv hcl T' rfl X'
    exact ⟨t2, st.trans a1, b1⟩
theorem vx_calll {S SX : Type} {post : Int64 → S → Prop} {px : SX → Prop} {B : S → State → Prop} {BX : String → SX → State → Prop} {AX : Nat → Prop} (hr : vx_Run p l e R s m args below meth c H locs cells slots mc ms (F0 m pc ls st0) rest (va_Ql post B A1 a) (vx_X px BX AX) free) (hS : va_S A0 H0 H locs) (hA : ∀ q, q < H.size → A1 q → A0 q) (hf : ∀ q, free q → A0 q) (hAX : ∀ q, q < H.size → AX q → A0 q)
    (kx : ∀ (E : String) (ce : Cell) (q9 : Addr) (u : SX) (t : State) (H1 : Heap) (locs1 : List Loc), t.heap = H1 → s.vm.Alike t.vm → px u → BX E u t → H.size ≤ H1.size → (∀ q : Nat, q < H.size → ¬ AX q → H1[q]? = H[q]?) → va_S A0 H0 H1 locs1 → H1[q9]? = some ce → ce.vm = .none → s.vm.findClass E = some ce.cls → vx_W p l e R s m args below meth c H1 locs1 (cells + mc) (slots + ms) Q (F0 m pc ls rest) q9)
    (kk : ∀ (r : Int64) (u : S) (t : State) (H1 : Heap) (locs1 : List Loc), t.heap = H1 → s.vm.Alike t.vm → post r u → B u t → H.size ≤ H1.size → (∀ q : Nat, q < H.size → ¬ A1 q → H1[q]? = H[q]?) → va_S A0 H0 H1 locs1 → W p l e R s m args below meth c H1 locs1 (cells + mc) (slots + ms) Q (F0 m (pc + 3) ls (.long r :: rest))) : W p l e R s m args below meth c H locs cells slots Q (F0 m pc ls st0) := by
  intro T hT X
  rcases hr T hT X with ⟨v, st₀, t, T', L, h0, X', hL, e1, e2, ⟨⟨r, u, hv, hp, hb⟩, hF⟩, st⟩ | ⟨q, st₀, t, T', L, E, ce, h0, X', hL, e1, e2, ⟨u, hp, hb, hF⟩, hce, hcv, hcl, st⟩
  · cases hv
    obtain ⟨k1, k2, k3⟩ := vx_keep h0 e1 hS hA hf hL hF
    obtain ⟨t2, a1, b1⟩ := kk r u t T'.heap (locs ++ L) e1.symm (by rw [← e2]; exact X'.warmed.alike) hp hb k1 k2 k3 T' rfl X'
    exact ⟨t2, st t2 a1, b1⟩
  · obtain ⟨k1, k2, k3⟩ := vx_keep h0 e1 hS hAX hf hL hF
    obtain ⟨t2, a1, b1⟩ := kx E ce q u t T'.heap (locs ++ L) e1.symm (by rw [← e2]; exact X'.warmed.alike) hp hb k1 k2 k3 (by rw [e1]; exact hce) hcv hcl T' rfl X'
    exact ⟨t2, st.trans a1, b1⟩
theorem vx_callf {S SX : Type} {post : UInt32 → S → Prop} {px : SX → Prop} {B : S → State → Prop} {BX : String → SX → State → Prop} {AX : Nat → Prop} (hr : vx_Run p l e R s m args below meth c H locs cells slots mc ms (F0 m pc ls st0) rest (va_Qf post B A1 a) (vx_X px BX AX) free) (hS : va_S A0 H0 H locs) (hA : ∀ q, q < H.size → A1 q → A0 q) (hf : ∀ q, free q → A0 q) (hAX : ∀ q, q < H.size → AX q → A0 q)
    (kx : ∀ (E : String) (ce : Cell) (q9 : Addr) (u : SX) (t : State) (H1 : Heap) (locs1 : List Loc), t.heap = H1 → s.vm.Alike t.vm → px u → BX E u t → H.size ≤ H1.size → (∀ q : Nat, q < H.size → ¬ AX q → H1[q]? = H[q]?) → va_S A0 H0 H1 locs1 → H1[q9]? = some ce → ce.vm = .none → s.vm.findClass E = some ce.cls → vx_W p l e R s m args below meth c H1 locs1 (cells + mc) (slots + ms) Q (F0 m pc ls rest) q9)
    (kk : ∀ (r : UInt32) (u : S) (t : State) (H1 : Heap) (locs1 : List Loc), t.heap = H1 → s.vm.Alike t.vm → post r u → B u t → H.size ≤ H1.size → (∀ q : Nat, q < H.size → ¬ A1 q → H1[q]? = H[q]?) → va_S A0 H0 H1 locs1 → W p l e R s m args below meth c H1 locs1 (cells + mc) (slots + ms) Q (F0 m (pc + 3) ls (.float r :: rest))) : W p l e R s m args below meth c H locs cells slots Q (F0 m pc ls st0) := by
  intro T hT X
  rcases hr T hT X with ⟨v, st₀, t, T', L, h0, X', hL, e1, e2, ⟨⟨r, u, hv, hp, hb⟩, hF⟩, st⟩ | ⟨q, st₀, t, T', L, E, ce, h0, X', hL, e1, e2, ⟨u, hp, hb, hF⟩, hce, hcv, hcl, st⟩
  · cases hv
    obtain ⟨k1, k2, k3⟩ := vx_keep h0 e1 hS hA hf hL hF
    obtain ⟨t2, a1, b1⟩ := kk r u t T'.heap (locs ++ L) e1.symm (by rw [← e2]; exact X'.warmed.alike) hp hb k1 k2 k3 T' rfl X'
    exact ⟨t2, st t2 a1, b1⟩
  · obtain ⟨k1, k2, k3⟩ := vx_keep h0 e1 hS hAX hf hL hF
    obtain ⟨t2, a1, b1⟩ := kx E ce q u t T'.heap (locs ++ L) e1.symm (by rw [← e2]; exact X'.warmed.alike) hp hb k1 k2 k3 (by rw [e1]; exact hce) hcv hcl T' rfl X'
    exact ⟨t2, st.trans a1, b1⟩
theorem vx_calld {S SX : Type} {post : UInt64 → S → Prop} {px : SX → Prop} {B : S → State → Prop} {BX : String → SX → State → Prop} {AX : Nat → Prop} (hr : vx_Run p l e R s m args below meth c H locs cells slots mc ms (F0 m pc ls st0) rest (va_Qd post B A1 a) (vx_X px BX AX) free) (hS : va_S A0 H0 H locs) (hA : ∀ q, q < H.size → A1 q → A0 q) (hf : ∀ q, free q → A0 q) (hAX : ∀ q, q < H.size → AX q → A0 q)
    (kx : ∀ (E : String) (ce : Cell) (q9 : Addr) (u : SX) (t : State) (H1 : Heap) (locs1 : List Loc), t.heap = H1 → s.vm.Alike t.vm → px u → BX E u t → H.size ≤ H1.size → (∀ q : Nat, q < H.size → ¬ AX q → H1[q]? = H[q]?) → va_S A0 H0 H1 locs1 → H1[q9]? = some ce → ce.vm = .none → s.vm.findClass E = some ce.cls → vx_W p l e R s m args below meth c H1 locs1 (cells + mc) (slots + ms) Q (F0 m pc ls rest) q9)
    (kk : ∀ (r : UInt64) (u : S) (t : State) (H1 : Heap) (locs1 : List Loc), t.heap = H1 → s.vm.Alike t.vm → post r u → B u t → H.size ≤ H1.size → (∀ q : Nat, q < H.size → ¬ A1 q → H1[q]? = H[q]?) → va_S A0 H0 H1 locs1 → W p l e R s m args below meth c H1 locs1 (cells + mc) (slots + ms) Q (F0 m (pc + 3) ls (.double r :: rest))) : W p l e R s m args below meth c H locs cells slots Q (F0 m pc ls st0) := by
  intro T hT X
  rcases hr T hT X with ⟨v, st₀, t, T', L, h0, X', hL, e1, e2, ⟨⟨r, u, hv, hp, hb⟩, hF⟩, st⟩ | ⟨q, st₀, t, T', L, E, ce, h0, X', hL, e1, e2, ⟨u, hp, hb, hF⟩, hce, hcv, hcl, st⟩
  · cases hv
    obtain ⟨k1, k2, k3⟩ := vx_keep h0 e1 hS hA hf hL hF
    obtain ⟨t2, a1, b1⟩ := kk r u t T'.heap (locs ++ L) e1.symm (by rw [← e2]; exact X'.warmed.alike) hp hb k1 k2 k3 T' rfl X'
    exact ⟨t2, st t2 a1, b1⟩
  · obtain ⟨k1, k2, k3⟩ := vx_keep h0 e1 hS hAX hf hL hF
    obtain ⟨t2, a1, b1⟩ := kx E ce q u t T'.heap (locs ++ L) e1.symm (by rw [← e2]; exact X'.warmed.alike) hp hb k1 k2 k3 (by rw [e1]; exact hce) hcv hcl T' rfl X'
    exact ⟨t2, st.trans a1, b1⟩
theorem vx_callv {S SX : Type} {post : S → Prop} {px : SX → Prop} {B : S → State → Prop} {BX : String → SX → State → Prop} {AX : Nat → Prop} (hr : vx_Run p l e R s m args below meth c H locs cells slots mc ms (F0 m pc ls st0) rest (va_Qv post B A1 a) (vx_X px BX AX) free) (hS : va_S A0 H0 H locs) (hA : ∀ q, q < H.size → A1 q → A0 q) (hf : ∀ q, free q → A0 q) (hAX : ∀ q, q < H.size → AX q → A0 q)
    (kx : ∀ (E : String) (ce : Cell) (q9 : Addr) (u : SX) (t : State) (H1 : Heap) (locs1 : List Loc), t.heap = H1 → s.vm.Alike t.vm → px u → BX E u t → H.size ≤ H1.size → (∀ q : Nat, q < H.size → ¬ AX q → H1[q]? = H[q]?) → va_S A0 H0 H1 locs1 → H1[q9]? = some ce → ce.vm = .none → s.vm.findClass E = some ce.cls → vx_W p l e R s m args below meth c H1 locs1 (cells + mc) (slots + ms) Q (F0 m pc ls rest) q9)
    (kk : ∀ (u : S) (t : State) (H1 : Heap) (locs1 : List Loc), t.heap = H1 → s.vm.Alike t.vm → post u → B u t → H.size ≤ H1.size → (∀ q : Nat, q < H.size → ¬ A1 q → H1[q]? = H[q]?) → va_S A0 H0 H1 locs1 → W p l e R s m args below meth c H1 locs1 (cells + mc) (slots + ms) Q (F0 m (pc + 3) ls (rest))) : W p l e R s m args below meth c H locs cells slots Q (F0 m pc ls st0) := by
  intro T hT X
  rcases hr T hT X with ⟨v, st₀, t, T', L, h0, X', hL, e1, e2, ⟨⟨u, hv, hp, hb⟩, hF⟩, st⟩ | ⟨q, st₀, t, T', L, E, ce, h0, X', hL, e1, e2, ⟨u, hp, hb, hF⟩, hce, hcv, hcl, st⟩
  · cases hv
    obtain ⟨k1, k2, k3⟩ := vx_keep h0 e1 hS hA hf hL hF
    obtain ⟨t2, a1, b1⟩ := kk u t T'.heap (locs ++ L) e1.symm (by rw [← e2]; exact X'.warmed.alike) hp hb k1 k2 k3 T' rfl X'
    exact ⟨t2, st t2 a1, b1⟩
  · obtain ⟨k1, k2, k3⟩ := vx_keep h0 e1 hS hAX hf hL hF
    obtain ⟨t2, a1, b1⟩ := kx E ce q u t T'.heap (locs ++ L) e1.symm (by rw [← e2]; exact X'.warmed.alike) hp hb k1 k2 k3 (by rw [e1]; exact hce) hcv hcl T' rfl X'
    exact ⟨t2, st.trans a1, b1⟩
/-- caught by the row x of this method's table; the rows ahead don't take it -/
theorem vx_catch {own name : String} {E : String} {ce : Cell} {q : Addr} (hown : s.vm.findClass own = some m.cls) (pre : List ExceptionTableEntry) (x : ExceptionTableEntry) (suf : List ExceptionTableEntry) (hsplit : c.exceptionTable.toList = pre ++ x :: suf)
    (hpass : ∀ z ∈ pre, covers z pc = false ∨ (z.catchType ≠ 0 ∧ ∃ nm : String, (Cond.classLink own z.catchType nm).before args s = true ∧ va_Nc E nm s)) (hx : covers x pc = true) (h0 : x.catchType ≠ 0)
    (hlink : (Cond.classLink own x.catchType name).before args s = true) (hcast : (Cond.castable E name).before args s = true) (hcell : H[q]? = some ce) (hv : ce.vm = .none) (hcl : s.vm.findClass E = some ce.cls)
    (kk : W p l e R s m args below meth c H locs cells slots Q (F0 m x.handlerPc ls [.ref q])) : vx_W p l e R s m args below meth c H locs cells slots Q (F0 m pc ls rest) q := by
  intro T hT X
  have hpl : e.platform.magicAccessors = ({} : Platform).magicAccessors := by rw [X.admits.platform]
  obtain ⟨c3, c4, hc3, hc4, hasg⟩ := Cond.castable_spec hcast
  cases Option.some.inj (hc3.symm.trans hcl)
  obtain ⟨c5, hc5, hcl5⟩ := Cond.classLink_spec hown hlink e.platform hpl
  cases Option.some.inj (hc4.symm.trans hc5)
  obtain ⟨vm', X', st⟩ := X.thenCaughtThrough q (g := F0 m pc ls rest) rfl (Steps.refl _) (by rw [hT]; exact hcell) (by rw [hv]; rfl) (by obtain ⟨k9, h9, -⟩ := Vm.findClass_spec hcl; exact ⟨k9, h9⟩) pre x suf hsplit
    (fun z hz => by
      rcases hpass z hz with h | ⟨hz0, nm, hl1, hn1⟩
      · exact Or.inl h
      · obtain ⟨c6, hc6, hcl6⟩ := Cond.classLink_spec hown hl1 e.platform hpl
        obtain ⟨a8, b8, h1, h2, h3⟩ := hn1
        cases Option.some.inj (h1.symm.trans hcl)
        cases Option.some.inj (h2.symm.trans hc6)
        exact Or.inr ⟨hz0, _, hcl6, h3⟩) hx (Or.inr ⟨h0, c4, hcl5, hasg⟩)
  obtain ⟨t, a1, b1⟩ := kk (T.setVm vm') hT X'
  exact ⟨t, st.trans a1, b1⟩
end Rows
section Ends
variable {p : Program} {l : Launch} {e : Env} {R : Room} {s : State} {m : MethodId} {args : Array Value} {below : List Frame} {meth : Method} {c : Code} {H : Heap} {locs : List Loc} {cells slots : Nat} {Q : State → Prop}
variable {mc ms : Nat} {free : Addr → Prop} {A0 A1 : Nat → Prop} {H0 : Heap} {a : Array Value} {ls : Array Slot} {st0 rest : List Value}
variable {Qc : Array Value → State → Outcome → State → Prop} {XC : String → State → State → Prop}
/-- what a body that may throw owes at its end -/
def vx_MQ (below : List Frame) (Qc : Array Value → State → Outcome → State → Prop) (XC : String → State → State → Prop) (a : Array Value) (s : State) (mc ms : Nat) (free : Addr → Prop) : State → Prop := fun t =>
  ∃ o, t.status = .running ∧ Ended t below o ∧ vx_Q Qc XC mc ms free a s o t
theorem vx_ret {g : JFrame} {mc ms : Nat} (k : W p l e R s m args below meth c H locs cells slots (MQ below Qc args s mc ms free) g) : W p l e R s m args below meth c H locs cells slots (vx_MQ below Qc XC args s mc ms free) g := by
  intro T hT X
  obtain ⟨t, a1, o, b1, b2, b3, b4⟩ := k T hT X
  exact ⟨t, a1, o, b1, b2, Or.inl ⟨b3, b4⟩⟩
/-- not caught here: it goes on to the caller -/
theorem vx_widen {g : JFrame} {q : Addr} {k n : Nat} (h1 : cells ≤ k) (h2 : slots ≤ n) (kk : vx_W p l e R s m args below meth c H locs k n Q g q) : vx_W p l e R s m args below meth c H locs cells slots Q g q := fun T hT X => kk T hT (stand_widen X h1 h2)
theorem vx_out {pc : Nat} {E : String} {ce : Cell} {q : Addr} {mc ms : Nat} (hout : ∀ x ∈ c.exceptionTable.toList, covers x pc = false) (hlocks : meth.locks = false) (hcell : H[q]? = some ce) (hv : ce.vm = .none) (hcl : s.vm.findClass E = some ce.cls)
    (hx : ∀ t : State, t.heap = H → s.vm.Alike t.vm → XC E s t) (hf : ∀ z ∈ locs, free z.base) (hc : cells ≤ mc) (hs : slots ≤ ms) :
    vx_W p l e R s m args below meth c H locs cells slots (vx_MQ below Qc XC args s mc ms free) (F0 m pc ls rest) q := by
  intro T hT X
  obtain ⟨st1, hrun, hend, hW, hsm⟩ := X.leaveThrown q (g := F0 m pc ls rest) rfl rfl rfl hout hlocks
  have hcell9 : (T.setFrames (.throwing q :: below)).heap[q]? = some ce := by
    show T.heap[q]? = some ce
    rw [hT]; exact hcell
  exact ⟨_, st1, .threw q, hrun, hend, Or.inr ⟨q, rfl, E, ce, locs, hx _ hT hW.alike, hcell9, hv, hcl, hW, hsm.mono hc hs, hf⟩⟩
theorem vx_frame {U : State} {k n : Nat} (h : s.sameButNew ({ U with vm := s.vm } : State) locs k n) : s.heap.size ≤ U.heap.size ∧ ∀ q : Nat, q < s.heap.size → (∀ z ∈ locs, z.base ≠ q) → U.heap[q]? = s.heap[q]? := by
  obtain ⟨-, h2, -, -, -, h6⟩ := h
  refine ⟨h2, fun q hq hz => ?_⟩
  obtain ⟨c9, e1, e2, e3, e4⟩ := h6 q _ (Array.getElem?_eq_getElem hq)
  have hs : c9.slots = (s.heap[q]).slots := Array.ext_getElem? fun i => e4 i fun hm => hz _ hm rfl
  have h9 : c9 = s.heap[q] := by
    rw [hs] at e2
    exact e2
  have e5 : U.heap[q]? = some c9 := e1
  rw [e5, h9, Array.getElem?_eq_getElem hq]
/-- the words of a throw but the four that speak of the heap -/
def vx_no (w : Cond) : Bool := decide (w ≠ .isRef (.static Bundle.tN "UNASSIGNED_STACK" Bundle.steD)) && decide (w ≠ .isRef (.static Bundle.tN "SUPPRESSED_SENTINEL" Bundle.listD)) && decide (w ≠ .laysStatic Bundle.tN "UNASSIGNED_STACK" Bundle.steD) && decide (w ≠ .laysStatic Bundle.tN "SUPPRESSED_SENTINEL" Bundle.listD)
def vx_at0 (own : String) (ic : Nat) (X : String) (names : List String) : List Cond := (Bundle.ownAtoms0 own ic X names).filter vx_no
def vx_atS (own : String) (ic : Nat) (X : String) (names : List String) : List Cond := (Bundle.ownAtoms own ic X names).filter vx_no
/-- a word that the tables alone decide, or a good one -/
def vx_ot (w : Cond) : Bool := w.onTables || goodWord w
theorem vx_ot_at {args a' : Array Value} {s U : State} {w : Cond} (hW : s.WarmedH U.vm) (hvm : s.vm = U.vm) (hg : vx_ot w = true) (h : w.before args s = true) : w.before a' U = true := by
  simp only [vx_ot, Bool.or_eq_true] at hg
  rcases hg with hg | hg
  · exact va_tabs hg hvm h
  · exact word_at hW (good_of_word hg) h
/-- a list's words: the good ones out of the method's own list, the others by premises of their own -/
theorem vx_hat {args : Array Value} {s : State} {L B : List Cond} (h1 : ∀ w ∈ L.filter goodWord, w.before args s = true) (h2 : ∀ w ∈ L.filter (fun w => !goodWord w), w ∈ B) (h3 : ∀ w ∈ B, w.before args s = true) : ∀ w ∈ L, w.before args s = true := by
  intro w hw
  by_cases g : goodWord w = true
  · exact h1 w (List.mem_filter.mpr ⟨hw, g⟩)
  · refine h3 w (h2 w (List.mem_filter.mpr ⟨hw, ?_⟩))
    show (!goodWord w) = true
    cases hgw : goodWord w
    · rfl
    · exact absurd hgw g
theorem vx_c {args : Array Value} {s : State} {w : Cond} {B : List Cond} (h : w.before args s = true) (t : ∀ w ∈ B, w.before args s = true) : ∀ w' ∈ w :: B, w'.before args s = true := fun w' h' => (List.mem_cons.mp h').elim (fun e => by rw [e]; exact h) (t w')
theorem vx_n {args : Array Value} {s : State} : ∀ w ∈ ([] : List Cond), w.before args s = true := fun _ h => nomatch h
theorem vx_own {args : Array Value} {s : State} {L : List Cond} (h1 : ∀ w ∈ L.filter vx_no, w.before args s = true)
    (hU : (Cond.isRef (.static Bundle.tN "UNASSIGNED_STACK" Bundle.steD)).before args s = true) (hN : (Cond.isRef (.static Bundle.tN "SUPPRESSED_SENTINEL" Bundle.listD)).before args s = true)
    (lU : (Cond.laysStatic Bundle.tN "UNASSIGNED_STACK" Bundle.steD).before args s = true) (lN : (Cond.laysStatic Bundle.tN "SUPPRESSED_SENTINEL" Bundle.listD).before args s = true) : ∀ w ∈ L, w.before args s = true := by
  intro w hw
  by_cases e1 : w = .isRef (.static Bundle.tN "UNASSIGNED_STACK" Bundle.steD)
  · rw [e1]; exact hU
  · by_cases e2 : w = .isRef (.static Bundle.tN "SUPPRESSED_SENTINEL" Bundle.listD)
    · rw [e2]; exact hN
    · by_cases e3 : w = .laysStatic Bundle.tN "UNASSIGNED_STACK" Bundle.steD
      · rw [e3]; exact lU
      · by_cases e4 : w = .laysStatic Bundle.tN "SUPPRESSED_SENTINEL" Bundle.listD
        · rw [e4]; exact lN
        · exact h1 w (List.mem_filter.mpr ⟨hw, by unfold vx_no; rw [decide_eq_true e1, decide_eq_true e2, decide_eq_true e3, decide_eq_true e4]; rfl⟩)
/-- where a static field lies, its class's statics cell in H -/
def vx_L (C n d : String) (A : Nat → Prop) (U : State) (H : Heap) : Prop := ∃ (c : ClassId) (k : Class) (i : Nat) (f : Field) (a : Nat) (cell : Cell), U.vm.findClass C = some c ∧ U.fieldFound? C n d = some (c, k, i, f) ∧ f.isStatic = true ∧ k.statics = some a ∧ H[a]? = some cell ∧ cell.vm.isStatics = true ∧ cell.cls = c ∧ f.slot < cell.slots.size ∧ k.staticTypes[f.slot]? = some f.type ∧ ¬ A a
theorem vx_L.moved {C n d : String} {A : Nat → Prop} {u U : State} {H : Heap} (hvm : u.vm.Alike U.vm) (h : vx_L C n d A u H) : vx_L C n d A U H := by
  obtain ⟨c, k, i, f, a, cell, h1, h2, h3, h4, h5, h6, h7, h8, h9, h10⟩ := h
  obtain ⟨k', hi', he⟩ := State.fieldFound?_setVm hvm h2
  exact ⟨c, k', i, f, a, cell, by rw [hvm.findClass]; exact h1, hi', h3, by rw [he]; exact h4, h5, h6, h7, h8, by rw [he]; exact h9, h10⟩
theorem vx_L.kept {C n d : String} {A : Nat → Prop} {U : State} {H H1 : Heap} (h : vx_L C n d A U H) (hq : ∀ a : Nat, a < H.size → ¬ A a → H1[a]? = H[a]?) : vx_L C n d A U H1 := by
  obtain ⟨c, k, i, f, a, cell, h1, h2, h3, h4, h5, h6, h7, h8, h9, h10⟩ := h
  exact ⟨c, k, i, f, a, cell, h1, h2, h3, h4, by rw [hq a (Array.getElem?_eq_some_iff.mp h5).1 h10]; exact h5, h6, h7, h8, h9, h10⟩
theorem vx_L.narrow {C n d : String} {A B : Nat → Prop} {U : State} {H : Heap} (h : vx_L C n d A U H) (hAB : ∀ q, B q → A q) : vx_L C n d B U H := by
  obtain ⟨c, k, i, f, a, cell, h1, h2, h3, h4, h5, h6, h7, h8, h9, h10⟩ := h
  exact ⟨c, k, i, f, a, cell, h1, h2, h3, h4, h5, h6, h7, h8, h9, fun z => h10 (hAB _ z)⟩
theorem vx_L.word {C n d : String} {A : Nat → Prop} {s : State} {args : Array Value} (h : vx_L C n d A s s.heap) : (Cond.laysStatic C n d).before args s = true := by
  obtain ⟨c, k, i, f, a, cell, h1, h2, h3, h4, h5, h6, h7, h8, h9, -⟩ := h
  show (Cond.laysStatic C n d).holds args s none s [] = true
  exact Cond.laysStatic_of h1 h2 h3 h4 h5 h6 h7 h8 h9
/-- .. and what it holds: null or some reference -/
def vx_Zq (C n d : String) (A : Nat → Prop) (U : State) (H : Heap) : Prop := va_Zq C n d A U H ∧ vx_L C n d A U H
theorem vx_Zq.moved {C n d : String} {A : Nat → Prop} {u U : State} {H : Heap} (hvm : u.vm.Alike U.vm) (h : vx_Zq C n d A u H) : vx_Zq C n d A U H := ⟨va_Zq.moved hvm h.1, vx_L.moved hvm h.2⟩
theorem vx_Zq.kept {C n d : String} {A : Nat → Prop} {U : State} {H H1 : Heap} (h : vx_Zq C n d A U H) (hq : ∀ a : Nat, a < H.size → ¬ A a → H1[a]? = H[a]?) : vx_Zq C n d A U H1 := ⟨va_Zq.kept h.1 hq, vx_L.kept h.2 hq⟩
theorem vx_Zq.narrow {C n d : String} {A B : Nat → Prop} {U : State} {H : Heap} (h : vx_Zq C n d A U H) (hAB : ∀ q, B q → A q) : vx_Zq C n d B U H := ⟨va_Zq.narrow h.1 hAB, vx_L.narrow h.2 hAB⟩
theorem vx_Zqof {args : Array Value} {s : State} {C n d : String} {A : Nat → Prop} (hl : (Cond.laysStatic C n d).before args s = true) (hini : (Cond.initialized C).before args s = true) (h : (Cond.isRef (.static C n d)).before args s = true) (hA : ∀ a : Nat, a < s.heap.size → ¬ A a) : vx_Zq C n d A s s.heap := by
  refine ⟨va_Zqof hl hini h hA, ?_⟩
  obtain ⟨c, k, i, f, a, cell, h1, h2, h3, h4, h5, h6, h7, h8, h9⟩ := Cond.laysStatic_spec hl
  exact ⟨c, k, i, f, a, cell, h1, h2, h3, h4, h5, h6, h7, h8, h9, hA a (Array.getElem?_eq_some_iff.mp h5).1⟩
theorem vx_isRef {C n d : String} {v : Value} {A : Nat → Prop} {s : State} {args : Array Value} (h : va_Z C n d v A s s.heap) (hv : v.isRef = true) : (Cond.isRef (.static C n d)).before args s = true := by
  obtain ⟨cf, kf, fi, f, a, cell, h1, h2, h3, h4, h5, h6, h7, -⟩ := h
  have he : (Term.static C n d).eval args s none [] s = some v := by
    simp [Term.eval, State.fieldNamed?, h1, h2, h4, h5, h6, h7]
  simp only [Cond.before, Cond.holds, Cond.value, he]
  cases v <;> simp_all [Value.isRef]
theorem vx_isRefq {C n d : String} {A : Nat → Prop} {s : State} {args : Array Value} (h : va_Zq C n d A s s.heap) : (Cond.isRef (.static C n d)).before args s = true := by
  rcases h with h | ⟨t, h⟩
  · exact vx_isRef h rfl
  · exact vx_isRef h rfl
/-- the same frame, seen from here: as if the method were called anew in this heap -/
theorem vx_rebase {T : State} (X : Stand p l e R s m args below meth c T locs cells slots) {R' : Room} (hf : R'.frames ≤ R.frames) (hl : R'.locals ≤ R.locals) (hc : cells + R'.cells ≤ R.cells) (hs : slots + R'.slots ≤ R.slots) :
    Stand p l e R' ((T.setVm s.vm).setFrames (.invoking m args :: below)) m args below meth c T [] 0 0 := by
  have htop : (T.setVm s.vm).topJava?.isSome := X.here.top
  have hF : ((T.setVm s.vm).setFrames (.invoking m args :: below)).frames = .invoking m args :: below := State.frames_setFrames _ (State.cur_lt_of_top htop)
  obtain ⟨g₀, hg0⟩ := Option.isSome_iff_exists.mp htop
  obtain ⟨r, hr⟩ := State.topJava?_eq_some.mp hg0
  have hl9 : e.platform.stackLimits (T.setVm s.vm).me = e.platform.stackLimits s.me := X.limits
  have hb9 : (T.setVm s.vm).me.stackBytes = s.me.stackBytes := X.bytes
  refine ⟨X.admits, X.cas, X.clock, hF, ?_, X.hears, X.method, X.code, X.here, X.tail, X.warmed, ?_, ?_, ?_⟩
  · have h := X.room
    have hU : ((T.setVm s.vm).setFrames (.invoking m args :: below)).localsInUse = s.localsInUse := by
      rw [State.localsInUse_invoking hF (meth := meth) (c := c) X.method X.code, State.localsInUse_invoking X.frames X.method X.code]
    simp only [State.hasRoom, Bool.and_eq_true, decide_eq_true_eq] at h ⊢
    obtain ⟨⟨⟨⟨h1, h2, h3, h4, h5, h6⟩, h7⟩, h8⟩, h9⟩ := h
    rw [X.frames, List.length_cons] at h2 h3
    have q1 := X.heapSize
    have q2 := X.used
    simp only [hF, hU, List.length_cons, State.stackLimits_setFrames, State.stackBytes_setFrames, hl9, hb9]
    refine ⟨⟨⟨⟨by omega, by omega, by omega, by omega, by omega, h6⟩, ?_⟩, ?_⟩, X.book⟩
    · show T.heap.size + R'.cells ≤ e.platform.maxCells
      omega
    · show T.slotsUsed + R'.slots ≤ e.platform.maxSlots
      omega
  · rw [State.stackLimits_setFrames]; rfl
  · rw [State.stackBytes_setFrames]; rfl
  · refine ⟨?_, Nat.le_refl _, Nat.le_refl _, ?_, ?_, fun a c9 h9 => ⟨c9, h9, rfl, rfl, fun _ _ => rfl⟩⟩
    · obtain ⟨t, ht, -⟩ := State.frames_cons hr
      show T.setVm s.vm = { ((T.setVm s.vm).setFrames (.invoking m args :: below)).setFrames (T.setVm s.vm).frames with heap := T.heap, slotsUsed := T.slotsUsed }
      rw [State.setFrames_setFrames, State.setFrames_self ht]
      rfl
    · show T.slotsUsed = T.slotsUsed + ((T.heap.toList.drop T.heap.size).map (·.slots.size)).sum
      rw [List.drop_eq_nil_of_le (Nat.le_of_eq Array.length_toList)]
      rfl
    · show ((T.heap.toList.drop T.heap.size).map (·.slots.size)).sum ≤ 0
      rw [List.drop_eq_nil_of_le (Nat.le_of_eq Array.length_toList)]
      exact Nat.le_refl _
/-- 'throw new E()': new; dup; invokespecial; athrow -/
theorem vx_throw0 {cc : ByteArray} {pc : Nat} (hexec : p.tables.exec = Jvm.exec) (hb : c.code = cc) (hl : l.stackTraces = false) {own cls : String} {names : List String} {ik ic mc ms : Nat} {A : Nat → Prop}
    (hown : s.vm.findClass own = some m.cls) (hcls : Bundle.fit cls = true) (hnames : ∀ n ∈ names, Bundle.fit n = true)
    (hk : (Cond.classLink own ik cls).before args s = true) (hini : (Cond.initialized cls).before args s = true) (hat : ∀ w ∈ vx_at0 own ic cls names, w.before args s = true)
    (hgood : ∀ w ∈ Cond.classLink own ik cls :: Cond.initialized cls :: vx_at0 own ic cls names, vx_ot w = true)
    (hU : vx_Zq Bundle.tN "UNASSIGNED_STACK" Bundle.steD A s s.heap) (hN : vx_Zq Bundle.tN "SUPPRESSED_SENTINEL" Bundle.listD A s s.heap) (hS : va_S A s.heap H locs) (hsize : ls.size = c.maxLocals)
    (d0 : decode cc pc = .ok (.new ik, 3)) (d3 : decode cc (pc + 3) = .ok (.dup, 1)) (d4 : decode cc (pc + 4) = .ok (.invokespecial ic, 3)) (d7 : decode cc (pc + 7) = .ok (.athrow, 1))
    (hout : ∀ x ∈ c.exceptionTable.toList, covers x (pc + 7) = false)
    (hRframes : names.length + 3 < R.frames) (hRlocals : (rest.map fun v => v.category).sum + (13 * (names.length + 1) + 42) ≤ R.locals) (hRcells : cells + 1 ≤ R.cells) (hRslots : slots + 6 ≤ R.slots) (hlocks : meth.locks = false)
    (hx : ∀ t : State, s.vm.Alike t.vm → H.size ≤ t.heap.size → (∀ q : Nat, q < H.size → t.heap[q]? = H[q]?) → XC cls s t)
    (hf : ∀ z ∈ locs, free z.base) (hc : cells + 1 ≤ mc) (hs : slots + 6 ≤ ms) :
    W p l e R s m args below meth c H locs cells slots (vx_MQ below Qc XC args s mc ms free) (F0 m pc ls rest) := by
  intro T hT X
  have htr : e.platform.stackTraces = false := (show e.platform.stackTraces = l.stackTraces by rw [X.admits.platform]).trans hl
  have Y := vx_rebase X (R' := { frames := R.frames, locals := R.locals, cells := 1, slots := 6 }) (Nat.le_refl _) (Nat.le_refl _) hRcells hRslots
  obtain ⟨s', hA⟩ : ∃ z, z = (T.setVm s.vm).setFrames (.invoking m args :: below) := ⟨_, rfl⟩
  rw [← hA] at Y
  have hvm : s'.vm = s.vm := by rw [hA]; rfl
  have hhp : s'.heap = H := by rw [hA]; exact hT
  have hW0 : s.WarmedH s'.vm := by rw [hvm]; exact State.WarmedH.refl s
  have hat' : ∀ w ∈ vx_at0 own ic cls names, w.before args s' = true := fun w hw => vx_ot_at hW0 hvm.symm (hgood w (List.mem_cons_of_mem _ (List.mem_cons_of_mem _ hw))) (hat w hw)
  have hk' : (Cond.classLink own ik cls).before args s' = true := vx_ot_at hW0 hvm.symm (hgood _ List.mem_cons_self) hk
  have hini' : (Cond.initialized cls).before args s' = true := vx_ot_at hW0 hvm.symm (hgood _ (List.mem_cons_of_mem _ List.mem_cons_self)) hini
  have hU' : vx_Zq Bundle.tN "UNASSIGNED_STACK" Bundle.steD A s' s'.heap := by rw [hhp]; exact vx_Zq.moved hW0.alike (hU.kept hS.2.1)
  have hN' : vx_Zq Bundle.tN "SUPPRESSED_SENTINEL" Bundle.listD A s' s'.heap := by rw [hhp]; exact vx_Zq.moved hW0.alike (hN.kept hS.2.1)
  have h : ∀ w ∈ Bundle.ownAtoms0 own ic cls names, w.before args s' = true := vx_own hat' (vx_isRefq hU'.1) (vx_isRefq hN'.1) hU'.2.word hN'.2.word
  have hown' : s'.vm.findClass own = some m.cls := by rw [hvm]; exact hown
  have hins : (Cond.instantiable cls 6).before args s' = true := h _ (by simp [Bundle.ownAtoms0])
  obtain ⟨vm₁, cX, kX, hfX, hkX, -, -, X₁, st1⟩ := Y.newCold hexec (own := own) (C := cls) (index := ik) (n := 6) hown' hk' hins hini'
    (g := F0 m pc ls rest) rfl (by rw [hb]; exact d0) (Nat.le_refl _) (Nat.le_refl _)
  generalize hT1 : (T.setVm vm₁).pushCell { cls := cX, slots := kX.instanceTypes.map defaultValue, vm := .none } = T1 at X₁ st1
  have hcat : (Value.ref T.heap.size).category = 1 := rfl
  have hcellA : T1.heap[T.heap.size]? = some (freshCell cX kX) := by rw [← hT1]; exact State.heap_pushCell_size _ _
  have d3' : decode c.code (pc + 3) = .ok (.dup, 1) := by rw [hb]; exact d3
  obtain ⟨U, hsteps, hrun, hend, hW, hsame, ce, hce, hO⟩ := X₁.ctorThrow0 hexec htr (own := own) (cls := cls) (names := names) (ic := ic) hown' hcls hnames h (fun x hx => nomatch hx) hfX hkX hcellA (by rw [hhp, hT]; exact Nat.le_refl _)
    (g := { method := m, pc := pc + 4, locals := ls, stack := .ref T.heap.size :: .ref T.heap.size :: rest, locked := none }) rfl hsize rfl rfl (rest := rest) rfl
    (by rw [hb]; exact d4) (by rw [hb]; exact d7) hout hRframes (by simp only [List.map_cons, List.sum_cons, hcat]; omega) hlocks
  obtain ⟨f1, f2⟩ := vx_frame hsame
  rw [hhp] at f1 f2
  have hWs : s.WarmedH U.vm := State.WarmedH.trans hW0 hW
  have hcl : s.vm.findClass cls = some ce.cls := by
    have h9 := hO.cls
    rw [hvm] at h9
    exact h9
  have hall : s.sameButNew ({ U with vm := s.vm } : State) locs mc ms := by
    subst hA
    obtain ⟨e1, e2⟩ := hsame
    rw [State.setFrames_setFrames] at e1
    have h2 : (T.setVm s.vm).sameButNew ({ U with vm := s.vm } : State) [] (0 + 1) (0 + 6) := ⟨e1, e2⟩
    have h3 := X.same.trans h2
    rw [List.append_nil] at h3
    exact h3.mono hc hs
  refine ⟨U, ?_, .threw T.heap.size, hrun, hend, Or.inr ⟨T.heap.size, rfl, cls, ce, locs, hx U hWs.alike f1 (fun q hq => f2 q hq (fun z hz => nomatch hz)), hce, hO.vm, hcl, hWs, hall, hf⟩⟩
  refine st1 _ ?_
  show Steps p.tables e below (T1.setTop { method := m, pc := pc + 3, locals := ls, stack := .ref T.heap.size :: rest, locked := none }) _
  jvm_step X₁.here [X₁.here.top, hexec, d3', Value.category]
  exact hsteps
/-- 'throw new E("text")': new; dup; ldc; invokespecial; athrow -/
theorem vx_throwS {cc : ByteArray} {pc : Nat} (hexec : p.tables.exec = Jvm.exec) (hb : c.code = cc) (hl : l.stackTraces = false) {own cls text : String} {names : List String} {ik is ic mc ms sa : Nat} {A : Nat → Prop}
    (hown : s.vm.findClass own = some m.cls) (hcls : Bundle.fit cls = true) (hnames : ∀ n ∈ names, Bundle.fit n = true)
    (hk : (Cond.classLink own ik cls).before args s = true) (hini : (Cond.initialized cls).before args s = true) (hstr : vk_R own is text sa s) (hat : ∀ w ∈ vx_atS own ic cls names, w.before args s = true)
    (hgood : ∀ w ∈ Cond.classLink own ik cls :: Cond.initialized cls :: vx_atS own ic cls names, vx_ot w = true)
    (hU : vx_Zq Bundle.tN "UNASSIGNED_STACK" Bundle.steD A s s.heap) (hN : vx_Zq Bundle.tN "SUPPRESSED_SENTINEL" Bundle.listD A s s.heap) (hS : va_S A s.heap H locs) (hsize : ls.size = c.maxLocals)
    (d0 : decode cc pc = .ok (.new ik, 3)) (d3 : decode cc (pc + 3) = .ok (.dup, 1)) (d4 : decode cc (pc + 4) = .ok (.ldc is, 2)) (d6 : decode cc (pc + 6) = .ok (.invokespecial ic, 3)) (d9 : decode cc (pc + 9) = .ok (.athrow, 1))
    (hout : ∀ x ∈ c.exceptionTable.toList, covers x (pc + 9) = false)
    (hRframes : names.length + 3 < R.frames) (hRlocals : (rest.map fun v => v.category).sum + (13 * (names.length + 1) + 43) ≤ R.locals) (hRcells : cells + 1 ≤ R.cells) (hRslots : slots + 6 ≤ R.slots) (hlocks : meth.locks = false)
    (hx : ∀ t : State, s.vm.Alike t.vm → H.size ≤ t.heap.size → (∀ q : Nat, q < H.size → t.heap[q]? = H[q]?) → XC cls s t)
    (hf : ∀ z ∈ locs, free z.base) (hc : cells + 1 ≤ mc) (hs : slots + 6 ≤ ms) :
    W p l e R s m args below meth c H locs cells slots (vx_MQ below Qc XC args s mc ms free) (F0 m pc ls rest) := by
  intro T hT X
  have htr : e.platform.stackTraces = false := (show e.platform.stackTraces = l.stackTraces by rw [X.admits.platform]).trans hl
  have Y := vx_rebase X (R' := { frames := R.frames, locals := R.locals, cells := 1, slots := 6 }) (Nat.le_refl _) (Nat.le_refl _) hRcells hRslots
  obtain ⟨s', hA⟩ : ∃ z, z = (T.setVm s.vm).setFrames (.invoking m args :: below) := ⟨_, rfl⟩
  rw [← hA] at Y
  have hvm : s'.vm = s.vm := by rw [hA]; rfl
  have hhp : s'.heap = H := by rw [hA]; exact hT
  have hW0 : s.WarmedH s'.vm := by rw [hvm]; exact State.WarmedH.refl s
  have hat' : ∀ w ∈ vx_atS own ic cls names, w.before args s' = true := fun w hw => vx_ot_at hW0 hvm.symm (hgood w (List.mem_cons_of_mem _ (List.mem_cons_of_mem _ hw))) (hat w hw)
  have hk' : (Cond.classLink own ik cls).before args s' = true := vx_ot_at hW0 hvm.symm (hgood _ List.mem_cons_self) hk
  have hini' : (Cond.initialized cls).before args s' = true := vx_ot_at hW0 hvm.symm (hgood _ (List.mem_cons_of_mem _ List.mem_cons_self)) hini
  have hU' : vx_Zq Bundle.tN "UNASSIGNED_STACK" Bundle.steD A s' s'.heap := by rw [hhp]; exact vx_Zq.moved hW0.alike (hU.kept hS.2.1)
  have hN' : vx_Zq Bundle.tN "SUPPRESSED_SENTINEL" Bundle.listD A s' s'.heap := by rw [hhp]; exact vx_Zq.moved hW0.alike (hN.kept hS.2.1)
  have h : ∀ w ∈ Bundle.ownAtoms own ic cls names, w.before args s' = true := vx_own hat' (vx_isRefq hU'.1) (vx_isRefq hN'.1) hU'.2.word hN'.2.word
  have hown' : s'.vm.findClass own = some m.cls := by rw [hvm]; exact hown
  have hins : (Cond.instantiable cls 6).before args s' = true := h _ (by simp [Bundle.ownAtoms])
  obtain ⟨vm₁, cX, kX, hfX, hkX, -, -, X₁, st1⟩ := Y.newCold hexec (own := own) (C := cls) (index := ik) (n := 6) hown' hk' hins hini'
    (g := F0 m pc ls rest) rfl (by rw [hb]; exact d0) (Nat.le_refl _) (Nat.le_refl _)
  generalize hT1 : (T.setVm vm₁).pushCell { cls := cX, slots := kX.instanceTypes.map defaultValue, vm := .none } = T1 at X₁ st1
  have hcat : (Value.ref T.heap.size).category = 1 := rfl
  have hcellA : T1.heap[T.heap.size]? = some (freshCell cX kX) := by rw [← hT1]; exact State.heap_pushCell_size _ _
  have d3' : decode c.code (pc + 3) = .ok (.dup, 1) := by rw [hb]; exact d3
  have d4' : decode c.code (pc + 4) = .ok (.ldc is, 2) := by rw [hb]; exact d4
  have hstr' : vk_R own is text sa s' := vk_R.warm hW0 hstr
  obtain ⟨U, hsteps, hrun, hend, hW, hsame, ce, hce, hO⟩ := X₁.ctorThrowS hexec htr (own := own) (cls := cls) (names := names) (ic := ic) hown' hcls hnames h (fun x hx => nomatch hx) hfX hkX hcellA (by rw [hhp, hT]; exact Nat.le_refl _) (msg := .ref sa) rfl
    (g := { method := m, pc := pc + 6, locals := ls, stack := .ref sa :: .ref T.heap.size :: .ref T.heap.size :: rest, locked := none }) rfl hsize rfl rfl (rest := rest) rfl
    (by rw [hb]; exact d6) (by rw [hb]; exact d9) hout hRframes (by simp only [List.map_cons, List.sum_cons, hcat]; omega) hlocks
  obtain ⟨f1, f2⟩ := vx_frame hsame
  rw [hhp] at f1 f2
  have hWs : s.WarmedH U.vm := State.WarmedH.trans hW0 hW
  have hcl : s.vm.findClass cls = some ce.cls := by
    have h9 := hO.cls
    rw [hvm] at h9
    exact h9
  have hall : s.sameButNew ({ U with vm := s.vm } : State) locs mc ms := by
    subst hA
    obtain ⟨e1, e2⟩ := hsame
    rw [State.setFrames_setFrames] at e1
    have h2 : (T.setVm s.vm).sameButNew ({ U with vm := s.vm } : State) [] (0 + 1) (0 + 6) := ⟨e1, e2⟩
    have h3 := X.same.trans h2
    rw [List.append_nil] at h3
    exact h3.mono hc hs
  refine ⟨U, ?_, .threw T.heap.size, hrun, hend, Or.inr ⟨T.heap.size, rfl, cls, ce, locs, hx U hWs.alike f1 (fun q hq => f2 q hq (fun z hz => nomatch hz)), hce, hO.vm, hcl, hWs, hall, hf⟩⟩
  refine st1 _ ?_
  show Steps p.tables e below (T1.setTop { method := m, pc := pc + 3, locals := ls, stack := .ref T.heap.size :: rest, locked := none }) _
  jvm_step X₁.here [X₁.here.top, hexec, d3', Value.category]
  exact X₁.ldcString hexec (own := own) (text := text) (index := is) (a := sa) hown' hstr'.1 hstr'.2
    (g := { method := m, pc := pc + 4, locals := ls, stack := .ref T.heap.size :: .ref T.heap.size :: rest, locked := none }) rfl d4' _ hsteps
/-- 'throw new E("text")', the text by a wide index -/
theorem vx_throwSW {cc : ByteArray} {pc : Nat} (hexec : p.tables.exec = Jvm.exec) (hb : c.code = cc) (hl : l.stackTraces = false) {own cls text : String} {names : List String} {ik is ic mc ms sa : Nat} {A : Nat → Prop}
    (hown : s.vm.findClass own = some m.cls) (hcls : Bundle.fit cls = true) (hnames : ∀ n ∈ names, Bundle.fit n = true)
    (hk : (Cond.classLink own ik cls).before args s = true) (hini : (Cond.initialized cls).before args s = true) (hstr : vk_R own is text sa s) (hat : ∀ w ∈ vx_atS own ic cls names, w.before args s = true)
    (hgood : ∀ w ∈ Cond.classLink own ik cls :: Cond.initialized cls :: vx_atS own ic cls names, vx_ot w = true)
    (hU : vx_Zq Bundle.tN "UNASSIGNED_STACK" Bundle.steD A s s.heap) (hN : vx_Zq Bundle.tN "SUPPRESSED_SENTINEL" Bundle.listD A s s.heap) (hS : va_S A s.heap H locs) (hsize : ls.size = c.maxLocals)
    (d0 : decode cc pc = .ok (.new ik, 3)) (d3 : decode cc (pc + 3) = .ok (.dup, 1)) (d4 : decode cc (pc + 4) = .ok (.ldc_w is, 3)) (d7 : decode cc (pc + 7) = .ok (.invokespecial ic, 3)) (d10 : decode cc (pc + 10) = .ok (.athrow, 1))
    (hout : ∀ x ∈ c.exceptionTable.toList, covers x (pc + 10) = false)
    (hRframes : names.length + 3 < R.frames) (hRlocals : (rest.map fun v => v.category).sum + (13 * (names.length + 1) + 43) ≤ R.locals) (hRcells : cells + 1 ≤ R.cells) (hRslots : slots + 6 ≤ R.slots) (hlocks : meth.locks = false)
    (hx : ∀ t : State, s.vm.Alike t.vm → H.size ≤ t.heap.size → (∀ q : Nat, q < H.size → t.heap[q]? = H[q]?) → XC cls s t)
    (hf : ∀ z ∈ locs, free z.base) (hc : cells + 1 ≤ mc) (hs : slots + 6 ≤ ms) :
    W p l e R s m args below meth c H locs cells slots (vx_MQ below Qc XC args s mc ms free) (F0 m pc ls rest) := by
  intro T hT X
  have htr : e.platform.stackTraces = false := (show e.platform.stackTraces = l.stackTraces by rw [X.admits.platform]).trans hl
  have Y := vx_rebase X (R' := { frames := R.frames, locals := R.locals, cells := 1, slots := 6 }) (Nat.le_refl _) (Nat.le_refl _) hRcells hRslots
  obtain ⟨s', hA⟩ : ∃ z, z = (T.setVm s.vm).setFrames (.invoking m args :: below) := ⟨_, rfl⟩
  rw [← hA] at Y
  have hvm : s'.vm = s.vm := by rw [hA]; rfl
  have hhp : s'.heap = H := by rw [hA]; exact hT
  have hW0 : s.WarmedH s'.vm := by rw [hvm]; exact State.WarmedH.refl s
  have hat' : ∀ w ∈ vx_atS own ic cls names, w.before args s' = true := fun w hw => vx_ot_at hW0 hvm.symm (hgood w (List.mem_cons_of_mem _ (List.mem_cons_of_mem _ hw))) (hat w hw)
  have hk' : (Cond.classLink own ik cls).before args s' = true := vx_ot_at hW0 hvm.symm (hgood _ List.mem_cons_self) hk
  have hini' : (Cond.initialized cls).before args s' = true := vx_ot_at hW0 hvm.symm (hgood _ (List.mem_cons_of_mem _ List.mem_cons_self)) hini
  have hU' : vx_Zq Bundle.tN "UNASSIGNED_STACK" Bundle.steD A s' s'.heap := by rw [hhp]; exact vx_Zq.moved hW0.alike (hU.kept hS.2.1)
  have hN' : vx_Zq Bundle.tN "SUPPRESSED_SENTINEL" Bundle.listD A s' s'.heap := by rw [hhp]; exact vx_Zq.moved hW0.alike (hN.kept hS.2.1)
  have h : ∀ w ∈ Bundle.ownAtoms own ic cls names, w.before args s' = true := vx_own hat' (vx_isRefq hU'.1) (vx_isRefq hN'.1) hU'.2.word hN'.2.word
  have hown' : s'.vm.findClass own = some m.cls := by rw [hvm]; exact hown
  have hins : (Cond.instantiable cls 6).before args s' = true := h _ (by simp [Bundle.ownAtoms])
  obtain ⟨vm₁, cX, kX, hfX, hkX, -, -, X₁, st1⟩ := Y.newCold hexec (own := own) (C := cls) (index := ik) (n := 6) hown' hk' hins hini'
    (g := F0 m pc ls rest) rfl (by rw [hb]; exact d0) (Nat.le_refl _) (Nat.le_refl _)
  generalize hT1 : (T.setVm vm₁).pushCell { cls := cX, slots := kX.instanceTypes.map defaultValue, vm := .none } = T1 at X₁ st1
  have hcat : (Value.ref T.heap.size).category = 1 := rfl
  have hcellA : T1.heap[T.heap.size]? = some (freshCell cX kX) := by rw [← hT1]; exact State.heap_pushCell_size _ _
  have d3' : decode c.code (pc + 3) = .ok (.dup, 1) := by rw [hb]; exact d3
  have d4' : decode c.code (pc + 4) = .ok (.ldc_w is, 3) := by rw [hb]; exact d4
  have hstr' : vk_R own is text sa s' := vk_R.warm hW0 hstr
  obtain ⟨U, hsteps, hrun, hend, hW, hsame, ce, hce, hO⟩ := X₁.ctorThrowS hexec htr (own := own) (cls := cls) (names := names) (ic := ic) hown' hcls hnames h (fun x hx => nomatch hx) hfX hkX hcellA (by rw [hhp, hT]; exact Nat.le_refl _) (msg := .ref sa) rfl
    (g := { method := m, pc := pc + 7, locals := ls, stack := .ref sa :: .ref T.heap.size :: .ref T.heap.size :: rest, locked := none }) rfl hsize rfl rfl (rest := rest) rfl
    (by rw [hb]; exact d7) (by rw [hb]; exact d10) hout hRframes (by simp only [List.map_cons, List.sum_cons, hcat]; omega) hlocks
  obtain ⟨f1, f2⟩ := vx_frame hsame
  rw [hhp] at f1 f2
  have hWs : s.WarmedH U.vm := State.WarmedH.trans hW0 hW
  have hcl : s.vm.findClass cls = some ce.cls := by
    have h9 := hO.cls
    rw [hvm] at h9
    exact h9
  have hall : s.sameButNew ({ U with vm := s.vm } : State) locs mc ms := by
    subst hA
    obtain ⟨e1, e2⟩ := hsame
    rw [State.setFrames_setFrames] at e1
    have h2 : (T.setVm s.vm).sameButNew ({ U with vm := s.vm } : State) [] (0 + 1) (0 + 6) := ⟨e1, e2⟩
    have h3 := X.same.trans h2
    rw [List.append_nil] at h3
    exact h3.mono hc hs
  refine ⟨U, ?_, .threw T.heap.size, hrun, hend, Or.inr ⟨T.heap.size, rfl, cls, ce, locs, hx U hWs.alike f1 (fun q hq => f2 q hq (fun z hz => nomatch hz)), hce, hO.vm, hcl, hWs, hall, hf⟩⟩
  refine st1 _ ?_
  show Steps p.tables e below (T1.setTop { method := m, pc := pc + 3, locals := ls, stack := .ref T.heap.size :: rest, locked := none }) _
  jvm_step X₁.here [X₁.here.top, hexec, d3', Value.category]
  exact X₁.ldcStringW hexec (own := own) (text := text) (index := is) (a := sa) hown' hstr'.1 hstr'.2
    (g := { method := m, pc := pc + 4, locals := ls, stack := .ref T.heap.size :: .ref T.heap.size :: rest, locked := none }) rfl d4' _ hsteps
end Ends
section Bodies
variable {l : Launch}
theorem vx_ofW {y : MethodName} {ws ws' : List Cond} {rm : Room} {Pc : Array Value → State → Prop} {Qc : Array Value → State → Outcome → State → Prop} {XC : String → State → State → Prop} {mc ms : Nat} {free : Addr → Prop} {cc : ByteArray} {maxL : Nat} {ret : Option FieldType}
    (hy : plainName y.cls = true) (hw : ws = Cond.code y cc maxL ret :: ws')
    (body : ∀ p e s m args below meth c s₁, BodyLoose p l y (headSpec ws rm) cc maxL ret e s m args below meth c s₁ → c.maxLocals = maxL → (∀ x ∈ c.exceptionTable.toList, False) → Pc args s →
      W p l e (headSpec ws rm).room s m args below meth c s.heap [] 0 0 (vx_MQ below Qc XC args s mc ms free) (entryFrame m args maxL)) : vx_Met l y ws rm Pc Qc XC mc ms free := by
  refine MetFree.of_bodyS (code := cc) (maxLocals := maxL) (ret := ret) hy ?_ ?_
  · intro args s m h hn
    obtain ⟨meth, c, h1, h2, h3, h4, h5, h6, -, -⟩ := Cond.code_spec hn (atoms_spec (ws := ws) h _ (by rw [hw]; exact List.mem_cons_self))
    exact ⟨meth, c, h1, h2, h3, h4, h5, h6⟩
  · intro p e s m args below meth c s₁ B hml hP _
    have hh0 : s₁.heap = s.heap := by rw [B.state]; rfl
    have ht : ∀ x ∈ c.exceptionTable.toList, False := by
      obtain ⟨meth9, c9, h1, h2, -, -, -, -, h7, -⟩ := Cond.code_spec B.named (atoms_spec (ws := ws) B.pre _ (by rw [hw]; exact List.mem_cons_self))
      cases Option.some.inj (h1.symm.trans B.method)
      cases Option.some.inj (h2.symm.trans (Stand.of_body B).code)
      intro x hx
      rw [Array.isEmpty_iff.mp h7] at hx
      cases hx
    obtain ⟨t, a1, o, b1, b2, b3⟩ := body p e s m args below meth c s₁ B hml ht hP s₁ hh0 (Stand.of_body B)
    exact ⟨t, o, a1, b1, b2, b3⟩
/-- the table of a body with handlers -/
theorem vx_table {p : Program} {x y : MethodName} {S : Spec} {cc bytes : ByteArray} {maxL maxL' : Nat} {ret ret' : Option FieldType} {e : Env} {s s₁ : State} {m : MethodId} {args : Array Value} {below : List Frame} {meth : Method} {c : Code} {hh : List (Nat × Nat × Nat × Nat)}
    (B : BodyLoose p l y S cc maxL ret e s m args below meth c s₁) (h : (Cond.codeWith y bytes maxL' ret' hh).before args s = true) : c.exceptionTable.toList = tableOf hh := by
  obtain ⟨m9, meth9, c9, hn9, h1, h2, -, -, h6, -⟩ := Cond.codeWith_spec h
  cases Option.some.inj (hn9.symm.trans B.named)
  cases Option.some.inj (h1.symm.trans B.method)
  cases Option.some.inj (h2.symm.trans (Stand.of_body B).code)
  rw [← h6, table_eq]
end Bodies
end VXA
/-! ===== END ===== -/
/-! ===== BEGIN a static call of a method with an exception table ===== -/
section VXS
variable {p : Program} {l : Launch} {e : Env} {R : Room} {s : State} {m : MethodId} {args : Array Value} {below : List Frame} {meth : Method} {c : Code} {T : State} {H : Heap} {locs : List Loc} {cells slots : Nat}
abbrev vx_CSW (R : Room) (s : State) (args : Array Value) (own : String) (index : Nat) (y : MethodName) (bytes : ByteArray) (maxL : Nat) (ret : Option FieldType) (hh : List (Nat × Nat × Nat × Nat)) (ws : List Cond) (rm : Room) (mc ms n : Nat) : Prop :=
  (rm.cells = mc ∧ rm.slots = ms ∧ rm.frames + 1 ≤ R.frames ∧ 8 + (maxL + 11) + rm.locals ≤ R.locals ∧ (∀ w ∈ ws, ∀ (a' : Array Value) (U : State), s.WarmedH U.vm → w.before a' U = true) ∧ Cond.codeWith y bytes maxL ret hh ∈ ws) ∧
  (Cond.codeWith y bytes maxL ret hh).before args s = true ∧ (Cond.initialized y.cls).before args s = true ∧ (y.cls ≠ "java/lang/invoke/MethodHandle" ∧ y.cls ≠ "java/lang/invoke/VarHandle") ∧
  (∀ sig, parseMethodDescriptor y.desc = some sig → n = sig.parameters.length) ∧ (Cond.methodLink own index y).before args s = true ∧ (Cond.static y).before args s = true
theorem vx_cwSW {own : String} {index maxL mc ms : Nat} {y : MethodName} {bytes : ByteArray} {ret : Option FieldType} {hh : List (Nat × Nat × Nat × Nat)} {Ts ws ws' : List Cond} {rm : Room} (n : Nat) (ht : ∀ w ∈ Ts, w.before args s = true) (hT : GoodIn Ts (va_wsS own index y ws)) (hw : ws = Cond.codeWith y bytes maxL ret hh :: ws') (hrc : rm.cells = mc) (hrs : rm.slots = ms)
    (hd : y.cls ≠ "java/lang/invoke/MethodHandle" ∧ y.cls ≠ "java/lang/invoke/VarHandle" ∧ (parseMethodDescriptor y.desc).map (fun d => d.parameters.length) = some n) (hR : rm.frames + 1 ≤ R.frames ∧ 8 + (maxL + 11) + rm.locals ≤ R.locals) :
    vx_CSW R s args own index y bytes maxL ret hh ws rm mc ms n := by
  have ok : ∀ w ∈ va_wsS own index y ws, w.before args s = true := fun w h => ht w (hT w h).1
  have hG : GoodIn Ts ws := fun w h => hT w (by unfold va_wsS; exact List.mem_append_right _ h)
  have hc : Cond.codeWith y bytes maxL ret hh ∈ ws := by rw [hw]; exact List.mem_cons_self
  refine ⟨⟨hrc, hrs, hR.1, hR.2, pay_in ht hG, hc⟩, ht _ (hG _ hc).1, ok _ (by simp [va_wsS]), ⟨hd.1, hd.2.1⟩, fun sig h => ?_, ok _ (by simp [va_wsS]), ok _ (by simp [va_wsS])⟩
  have h2 := hd.2.2
  rw [h] at h2
  exact (Option.some.inj h2).symm
theorem vx_callSW (X : Stand p l e R s m args below meth c T locs cells slots) (hexec : p.tables.exec = Jvm.exec) {own : String} {index : Nat} {y : MethodName} {bytes : ByteArray} {maxL : Nat} {ret : Option FieldType} {hh : List (Nat × Nat × Nat × Nat)}
    (hown : s.vm.findClass own = some m.cls) (hlink : (Cond.methodLink own index y).before args s = true) (hstat : (Cond.static y).before args s = true) (hinit : (Cond.initialized y.cls).before args s = true)
    (hcode : (Cond.codeWith y bytes maxL ret hh).before args s = true) (hy : y.cls ≠ "java/lang/invoke/MethodHandle" ∧ y.cls ≠ "java/lang/invoke/VarHandle")
    {W9 : Nat} {Pre : Pt → Array Value → Prop} {Post : Pt → Array Value → Option Value → Pt → Prop} (hK : Back l R p e below s args y 3 W9 Pre Post)
    {g : JFrame} (hg : g.method = m) (hsize : g.locals.size = c.maxLocals) {argsL rest : List Value} (hlen : ∀ sig, parseMethodDescriptor y.desc = some sig → argsL.length = sig.parameters.length)
    (hstack : g.stack = argsL.reverse ++ rest) (hW : 2 * g.monitorRoom + (rest.map fun v => v.category).sum ≤ W9) (hdg : decode c.code g.pc = .ok (.invokestatic index, 3))
    (hpre : ∀ vm₁, s.WarmedH vm₁ → Pre ⟨T.setVm vm₁, locs, cells, slots⟩ argsL.toArray) :
    ∃ (v : Option Value) (vm₁ : Vm) (B : Pt), s.WarmedH vm₁ ∧ Stand p l e R s m args below meth c B.U B.locs B.cells B.slots ∧ Post ⟨T.setVm vm₁, locs, cells, slots⟩ argsL.toArray v B ∧
      ∀ target, Steps p.tables e below (B.U.setTop { g with pc := g.pc + 3, stack := v.toList ++ rest }) target → Steps p.tables e below (T.setTop g) target := by
  obtain ⟨mk, methM, cM, hnamed, hmethM, -, -, -, -, -, -, hsigM⟩ := Cond.codeWith_spec hcode
  have hstatic : methM.isStatic = true := Cond.static_spec hnamed hmethM hstat
  obtain ⟨kP, hkP, -⟩ := className_of_methodNamed hnamed
  have hinitP : kP.init = .initialized := Cond.initialized_spec (findClass_of_methodNamed hnamed) hkP hinit
  obtain ⟨vm₁, X₁, hstep₁⟩ := X.invokestatic hexec hown hlink hnamed hmethM hstatic hkP hinitP hy (g := g) hg (argsL := argsL) (rest := rest) (hlen _ hsigM) hstack hdg
  obtain ⟨v, B, X', hpost, hsteps⟩ := hK m meth c ⟨T.setVm vm₁, locs, cells, slots⟩ { g with stack := rest } (.invokestatic index) mk argsL.toArray X₁ hg hsize hdg hW (X₁.named hnamed) (hpre vm₁ X₁.warmed)
  exact ⟨v, vm₁, B, X₁.warmed, X', hpost, fun target h => hstep₁ _ fun acts => by rw [doInvoke_state]; exact hsteps.trans h⟩
theorem vx_runSW {y : MethodName} {bytes cc : ByteArray} {maxL nL mc ms n index : Nat} {ret : Option FieldType} {hh : List (Nat × Nat × Nat × Nat)} {ws : List Cond} {rm : Room} {Pc : Array Value → State → Prop} {Qc : Array Value → State → Outcome → State → Prop} {free : Addr → Prop} {Ts : List Cond} {own : String} {As rest : List Value} {g : JFrame}
    (S : CallFix p m c cc nL s args Ts own) (hM : Met l y ws rm Pc Qc mc ms free) (cw : vx_CSW R s args own index y bytes maxL ret hh ws rm mc ms n) (hp : PreS s H Pc As)
    (hg : g.method = m) (hn : As.length = n) (hsize : g.locals.size = nL) (hstack : g.stack = As.reverse ++ rest) (hW : 2 * g.monitorRoom + (rest.map fun v => v.category).sum ≤ 8) (hdg : decode cc g.pc = .ok (.invokestatic index, 3)) (hf : cells + mc ≤ R.cells ∧ slots + ms ≤ R.slots) :
    va_Run p l e R s m args below meth c H locs cells slots mc ms g rest (Qc As.toArray) (free) := by
  obtain ⟨⟨hrc, hrs, hfr, hlo, hws, hcw⟩, hcode, hini, hy, hlen, hl, hstt⟩ := cw
  have hK : Back l R p e below s args y 3 8 (PreOf R mc ms Pc) (PostOf Qc mc ms free) := va_backW (hh := hh) (bytes := bytes) (maxL := maxL) (ret := ret) hM hp.1 hrc hrs hfr hlo hws hcw (fun a' U hW => word_at hW (Or.inl (by first | rfl | simp [Cond.onTables, Cond.keeps, Cond.steady])) hini)
  obtain ⟨hx, hb, hml, ho, -⟩ := S
  intro T hT X
  obtain ⟨v, vm₁, ⟨U', l2, c2, s2⟩, hW₁, X', ⟨g', mk, t, L, e1, e2, hq, h1, hL, h2, h3⟩, st⟩ := vx_callSW X hx (hh := hh) (bytes := bytes) (maxL := maxL) (ret := ret) ho hl hstt hini hcode hy hK hg (hsize.trans hml.symm) (argsL := As) (rest := rest) (fun sig h => hn.trans (hlen sig h)) hstack hW (by rw [hb]; exact hdg)
    (fun vm₁ hW₁ => ⟨hf.1, hf.2, hp.2 (T.setVm vm₁) hT hW₁⟩)
  dsimp only [Pt.U, Pt.locs, Pt.cells, Pt.slots] at X' e1 e2 h1 h2 h3 st
  subst h1; subst h2; subst h3
  exact ⟨v, (T.setVm vm₁).calling g' mk As.toArray, t, U', L, hT, X', hL, e1, e2, hq, st⟩
/-- not caught here, past rows that name other classes: it goes on to the caller -/
theorem vx_outP {p : Program} {l : Launch} {e : Env} {R : Room} {s : State} {m : MethodId} {args : Array Value} {below : List Frame} {meth : Method} {c : Code} {H : Heap} {locs : List Loc} {cells slots : Nat} {free : Addr → Prop} {ls : Array Slot} {rest : List Value} {Qc : Array Value → State → Outcome → State → Prop} {XC : String → State → State → Prop}
    {pc : Nat} {own E : String} {ce : Cell} {q : Addr} {mc ms : Nat} (hown : s.vm.findClass own = some m.cls) (hlocks : meth.locks = false)
    (hpass : ∀ z ∈ c.exceptionTable.toList, covers z pc = false ∨ (z.catchType ≠ 0 ∧ ∃ nm : String, (Cond.classLink own z.catchType nm).before args s = true ∧ va_Nc E nm s)) (hcell : H[q]? = some ce) (hv : ce.vm = .none) (hcl : s.vm.findClass E = some ce.cls)
    (hx : ∀ t : State, t.heap = H → s.vm.Alike t.vm → XC E s t) (hf : ∀ z ∈ locs, free z.base) (hc : cells ≤ mc) (hs : slots ≤ ms) :
    vx_W p l e R s m args below meth c H locs cells slots (vx_MQ below Qc XC args s mc ms free) (F0 m pc ls rest) q := by
  intro T hT X
  have hpl : e.platform.magicAccessors = ({} : Platform).magicAccessors := by rw [X.admits.platform]
  obtain ⟨vm', hW', X', st⟩ := X.outThrough hlocks q (g := F0 m pc ls rest) rfl rfl rfl (cell := ce) (by rw [hT]; exact hcell) (by rw [hv]; rfl)
    (by obtain ⟨k9, h9, -⟩ := Vm.findClass_spec hcl; exact ⟨k9, h9⟩) (fun z hz => by
      rcases hpass z hz with h | ⟨hz0, nm, hl1, hn1⟩
      · exact Or.inl h
      · obtain ⟨c6, hc6, hcl6⟩ := Cond.classLink_spec hown hl1 e.platform hpl
        obtain ⟨a8, b8, h1, h2, h3⟩ := hn1
        cases Option.some.inj (h1.symm.trans hcl)
        cases Option.some.inj (h2.symm.trans hc6)
        exact Or.inr ⟨hz0, _, hcl6, h3⟩)
  obtain ⟨g₀, hfr⟩ := X'.frames_eq
  have hcell9 : ((T.setVm vm').setFrames (.throwing q :: below)).heap[q]? = some ce := by
    show T.heap[q]? = some ce
    rw [hT]; exact hcell
  have hend : Ended ((T.setVm vm').setFrames (.throwing q :: below)) below (.threw q) := State.frames_setFrames _ (State.cur_lt_of_frames hfr)
  refine ⟨(T.setVm vm').setFrames (.throwing q :: below), ?_, .threw q, X'.here.running, hend, Or.inr ⟨q, rfl, E, ce, locs, hx _ hT (X'.ends _).1.alike, hcell9, hv, hcl, (X'.ends _).1, (X'.ends _).2.mono hc hs, hf⟩⟩
  rw [X.pushThrowing_eq]
  exact st
/-- a thing of a world lies in the heap -/
theorem vx_lt {D : va_G} {cl : List vw_C} {ws : va_W} {H1 : Heap} (h : va_P D cl ws H1) {k : Nat} {q : Nat × va_E} (hk : ws[k]? = some q) : q.1 < H1.size := (h k q hk).lt
end VXS
/-! ===== END ===== -/
/-! ===== BEGIN methods with a table of their own: called by a name, returning or throwing ===== -/
section VXH
/-! vx_backW, vx_callVX, vx_callSX, vx_callVW, vx_runVW, vx_runVX, vx_runSX, vx_ofWH follow the same proofs as their sisters above (Free/Laws.lean, Shelf42/LK1.lean); vx_outP calls Shelf42/NT130.lean (outThrough). -/
section
variable {l : Launch} {R : Room} {p : Program} {e : Env} {below : List Frame} {s : State} {sargs : Array Value} {y : MethodName} {len W9 : Nat}
theorem vx_backW {ws : List Cond} {rm : Room} {Pc : Array Value → State → Prop} {Qc : Array Value → State → Outcome → State → Prop} {XC : String → State → State → Prop} {mc ms : Nat} {free : Addr → Prop} {bytes : ByteArray} {maxL : Nat} {ret : Option FieldType} {hh : List (Nat × Nat × Nat × Nat)}
    (hM : vx_Met l y ws rm Pc Qc XC mc ms free) (hblind : FrameBlind Pc) (hrc : rm.cells = mc) (hrs : rm.slots = ms)
    (hframes : rm.frames + 1 ≤ R.frames) (hlocals : W9 + (maxL + 11) + rm.locals ≤ R.locals)
    (hws : ∀ w ∈ ws, ∀ a' U, s.WarmedH U.vm → w.before a' U = true) (hcode : Cond.codeWith y bytes maxL ret hh ∈ ws) (hinit : ∀ a' U, s.WarmedH U.vm → (Cond.initialized y.cls).before a' U = true) :
    vx_Back l R p e below s sargs y len W9 (PreOf R mc ms Pc) (PostOf Qc mc ms free) (vx_Post XC mc ms free) := by
  intro m meth c A g ig mk a X hg hsize hdg hW hn hp
  have h1 : (headSpec ws rm).pre.before a A.U = true := atoms_intro fun w hw => hws w hw _ _ X.warmed
  have h2 : (Cond.codeWith y bytes maxL ret hh).before a A.U = true := hws _ hcode _ _ X.warmed
  have h3 : (Cond.initialized y.cls).before a A.U = true := hinit _ _ X.warmed
  have h4 : A.cells + (headSpec ws rm).room.cells ≤ R.cells := by rw [show (headSpec ws rm).room.cells = mc from hrc]; exact hp.1
  have h5 : A.slots + (headSpec ws rm).room.slots ≤ R.slots := by rw [show (headSpec ws rm).room.slots = ms from hrs]; exact hp.2.1
  have hPc : Pc a (A.U.calling g mk a) := hblind _ _ _ _ hp.2.2
  obtain ⟨U, Ls, c0, s0⟩ := A
  dsimp only [Pt.U, Pt.locs, Pt.cells, Pt.slots] at h1 h2 h3 h4 h5 X hn hPc ⊢
  obtain ⟨m9, methY, cY, hn9, hmY, hcY, -, hlY, -⟩ := Cond.codeWith_spec h2
  cases Option.some.inj (hn9.symm.trans hn)
  obtain ⟨kY, hkY, -⟩ := className_of_methodNamed hn
  have hinitY : kY.init = .initialized := Cond.initialized_spec (findClass_of_methodNamed hn) hkY h3
  have h : At U g.method c below := by rw [hg]; exact X.here
  have hlocals9 : W9 + (maxL + 11) + (headSpec ws rm).room.locals ≤ R.locals := hlocals
  have happ : (headSpec ws rm).appliesLoose y e.platform (U.calling g mk a) = true :=
    Spec.appliesLoose_calling (g := g) h hdg hn hkY hinitY
      (X.room_calling (g := g) (R' := (headSpec ws rm).room) hsize hmY hcY hframes (by rw [hlY]; omega) h4 h5) h1
  obtain ⟨mid, hmid⟩ := h.above
  have hfr : (U.setTop g).frames = (.java g :: mid) ++ below := by rw [State.frames_setTop' g h.top, hmid]; rfl
  obtain ⟨o, s₂, hsteps, -, hend, hq⟩ := Steps.callFree hM p X.admits X.cas X.clock (acts := []) hfr happ hPc trivial
  have hq' : vx_Q Qc XC mc ms free a (U.calling g mk a) o s₂ := hq
  rw [State.frames_setTop' g h.top] at hend
  obtain ⟨g₀, hg0⟩ := Option.isSome_iff_exists.mp h.top
  obtain ⟨r, hr⟩ := State.topJava?_eq_some.mp hg0
  have hr' : (({ U with heap := s₂.heap, slotsUsed := s₂.slotsUsed } : State).setVm s₂.vm).frames = .java g₀ :: r := hr
  rcases hq' with ⟨hqc, L, hfe, hL⟩ | ⟨q, rfl, E, ce, L, hx, hce, hcv, hcl, hW₂, hsm, hL⟩
  · obtain ⟨⟨v, rfl⟩, hW₂, e2, q2, q3, q4, q5, q6⟩ := id hfe
    have e3 : s₂ = ({ (U.calling g mk a).setFrames s₂.frames with heap := s₂.heap, slotsUsed := s₂.slotsUsed } : State).setVm s₂.vm := by
      have : s₂ = ({ s₂ with vm := (U.calling g mk a).vm } : State).setVm s₂.vm := rfl
      rw [e2] at this
      exact this
    obtain ⟨c₂, i₂, len₂, hc₂, hd₂, hf₂⟩ := hend
    have hW' : U.WarmedH s₂.vm := hW₂
    have hcc : c₂ = c := by
      have h1 : s₂.code? g.method = U.code? g.method := by
        rw [State.code?_eq, State.code?_eq, hW'.alike.method?]
      exact Option.some.inj (hc₂.symm.trans (h1.trans h.code))
    subst hcc
    have hlen : len₂ = len := by rw [hdg] at hd₂; cases hd₂; rfl
    subst hlen
    have hs₂ : s₂ = (({ U with heap := s₂.heap, slotsUsed := s₂.slotsUsed } : State).setVm s₂.vm).setTop { g with pc := g.pc + len₂, stack := v.toList ++ g.stack } := by
      refine e3.trans ?_
      rw [hf₂, State.calling_eq h.top, State.setFrames_setFrames, State.setTop_of_frames _ hr', hr]
      rfl
    have hsame : U.sameButNew ({ U with heap := s₂.heap, slotsUsed := s₂.slotsUsed } : State) L mc ms := by
      refine ⟨?_, q2, q3, q4, q5, q6⟩
      obtain ⟨t, ht, -⟩ := State.frames_cons hr
      show ({ U with heap := s₂.heap, slotsUsed := s₂.slotsUsed } : State) = { U.setFrames U.frames with heap := s₂.heap, slotsUsed := s₂.slotsUsed }
      rw [State.setFrames_self ht]
    subst hg
    refine Or.inl ⟨v, ⟨(({ U with heap := s₂.heap, slotsUsed := s₂.slotsUsed } : State).setVm s₂.vm), Ls ++ L, c0 + mc, s0 + ms⟩,
      ⟨X.admits, X.cas, X.clock, X.frames, X.room, X.hears, X.method, X.code, (X.here.setHeapUsed s₂.heap s₂.slotsUsed).setVm hW'.alike, X.tail, State.WarmedH.trans X.warmed hW', X.limits, X.bytes, X.same.trans (hsame.setVm s.vm)⟩,
      ⟨g, mk, s₂, L, rfl, rfl, hqc, rfl, hL, rfl, rfl⟩, ?_⟩
    show Steps p.tables e below _ ((({ U with heap := s₂.heap, slotsUsed := s₂.slotsUsed } : State).setVm s₂.vm).setTop { g with pc := g.pc + len₂, stack := v.toList ++ g.stack })
    rw [← hs₂]
    exact hsteps
  · obtain ⟨e2, q2, q3, q4, q5, q6⟩ := id hsm
    have e3 : s₂ = ({ (U.calling g mk a).setFrames s₂.frames with heap := s₂.heap, slotsUsed := s₂.slotsUsed } : State).setVm s₂.vm := by
      have : s₂ = ({ s₂ with vm := (U.calling g mk a).vm } : State).setVm s₂.vm := rfl
      rw [e2] at this
      exact this
    have hf₂ : s₂.frames = .throwing q :: .java g :: U.frames.tail := hend
    have hW' : U.WarmedH s₂.vm := hW₂
    have hs₂ : s₂ = ((({ U with heap := s₂.heap, slotsUsed := s₂.slotsUsed } : State).setVm s₂.vm).setTop g).pushFrame (.throwing q) := by
      refine e3.trans ?_
      rw [hf₂, State.calling_eq h.top, State.setFrames_setFrames, State.pushFrame, State.frames_setTop _ hr', State.setTop_of_frames _ hr', State.setFrames_setFrames, hr]
      rfl
    have hsame : U.sameButNew ({ U with heap := s₂.heap, slotsUsed := s₂.slotsUsed } : State) L mc ms := by
      refine ⟨?_, q2, q3, q4, q5, q6⟩
      obtain ⟨t, ht, -⟩ := State.frames_cons hr
      show ({ U with heap := s₂.heap, slotsUsed := s₂.slotsUsed } : State) = { U.setFrames U.frames with heap := s₂.heap, slotsUsed := s₂.slotsUsed }
      rw [State.setFrames_self ht]
    subst hg
    refine Or.inr ⟨q, ⟨(({ U with heap := s₂.heap, slotsUsed := s₂.slotsUsed } : State).setVm s₂.vm), Ls ++ L, c0 + mc, s0 + ms⟩,
      ⟨X.admits, X.cas, X.clock, X.frames, X.room, X.hears, X.method, X.code, (X.here.setHeapUsed s₂.heap s₂.slotsUsed).setVm hW'.alike, X.tail, State.WarmedH.trans X.warmed hW', X.limits, X.bytes, X.same.trans (hsame.setVm s.vm)⟩,
      ⟨g, mk, s₂, L, E, ce, rfl, rfl, hx, hce, hcv, hcl, rfl, hL, rfl, rfl⟩, ?_⟩
    show Steps p.tables e below _ (((({ U with heap := s₂.heap, slotsUsed := s₂.slotsUsed } : State).setVm s₂.vm).setTop g).pushFrame (.throwing q))
    rw [← hs₂]
    exact hsteps
end
variable {p : Program} {l : Launch} {e : Env} {R : Room} {s : State} {m : MethodId} {args : Array Value} {below : List Frame} {meth : Method} {c : Code} {T : State} {H : Heap} {locs : List Loc} {cells slots : Nat}
theorem vx_callVX (X : Stand p l e R s m args below meth c T locs cells slots) (hexec : p.tables.exec = Jvm.exec) {own C : String} {index : Nat} {y : MethodName} {bytes : ByteArray} {maxL : Nat} {ret : Option FieldType} {hh : List (Nat × Nat × Nat × Nat)}
    (hown : s.vm.findClass own = some m.cls) (hlink : (Cond.methodLink own index y).before args s = true) (hinst : (Cond.instanceMethod y).before args s = true) (hsel : (Cond.selects C y y).before args s = true)
    (hcode : (Cond.codeWith y bytes maxL ret hh).before args s = true) (hy : y.cls ≠ "java/lang/invoke/MethodHandle" ∧ y.cls ≠ "java/lang/invoke/VarHandle")
    {W9 : Nat} {Pre : Pt → Array Value → Prop} {Post : Pt → Array Value → Option Value → Pt → Prop} {PostX : Pt → Array Value → Addr → Pt → Prop} (hK : vx_Back l R p e below s args y 3 W9 Pre Post PostX)
    {b : Addr} {cellB : Cell} (hcell : T.heap[b]? = some cellB) (hobj : cellB.vm.isStatics = false) (hcls : s.vm.findClass C = some cellB.cls)
    {g : JFrame} (hg : g.method = m) (hsize : g.locals.size = c.maxLocals) {argsL rest : List Value} (hlen : ∀ sig, parseMethodDescriptor y.desc = some sig → argsL.length = sig.parameters.length)
    (hstack : g.stack = argsL.reverse ++ .ref b :: rest) (hW : 2 * g.monitorRoom + (rest.map fun v => v.category).sum ≤ W9) (hdg : decode c.code g.pc = .ok (.invokevirtual index, 3))
    (hpre : ∀ vm₁, s.WarmedH vm₁ → Pre ⟨T.setVm vm₁, locs, cells, slots⟩ (Value.ref b :: argsL).toArray) :
    (∃ (v : Option Value) (vm₁ : Vm) (B : Pt), s.WarmedH vm₁ ∧ Stand p l e R s m args below meth c B.U B.locs B.cells B.slots ∧ Post ⟨T.setVm vm₁, locs, cells, slots⟩ (Value.ref b :: argsL).toArray v B ∧
      ∀ target, Steps p.tables e below (B.U.setTop { g with pc := g.pc + 3, stack := v.toList ++ rest }) target → Steps p.tables e below (T.setTop g) target) ∨
    (∃ (q : Addr) (vm₁ : Vm) (B : Pt), s.WarmedH vm₁ ∧ Stand p l e R s m args below meth c B.U B.locs B.cells B.slots ∧ PostX ⟨T.setVm vm₁, locs, cells, slots⟩ (Value.ref b :: argsL).toArray q B ∧
      Steps p.tables e below (T.setTop g) ((B.U.setTop { g with stack := rest }).pushFrame (.throwing q))) := by
  obtain ⟨mk, methM, hnamed, hmethM, hstM, habM⟩ := Cond.instanceMethod_spec hinst
  obtain ⟨m8, methM', cM, hn8, hmethM', -, -, -, -, -, -, hsigM⟩ := Cond.codeWith_spec hcode
  cases Option.some.inj (hn8.symm.trans hnamed)
  cases hmethM.symm.trans hmethM'
  obtain ⟨c2, r2, m2, q1, q2, q3, q4, kP, hkP, hkPi⟩ := Cond.selects_spec hsel
  cases hcls.symm.trans q1
  cases (State.methodFound?_of_named hnamed hy).symm.trans q2
  cases hnamed.symm.trans q3
  have hselP : selectMethod e.platform s.vm cellB.cls mk = .method mk := by rw [Launch.admits_selectMethod X.admits]; exact q4
  obtain ⟨vm₁, X₁, hstep₁⟩ := X.invokevirtual hexec hown hlink hnamed hmethM hstM hkP hkPi hy (a := b) (cell := cellB) hcell
    (fun z h => by rw [h] at hobj; cases hobj) hselP hmethM habM hkP hkPi (g := g) hg (argsL := argsL) (rest := rest) (hlen _ hsigM) hstack hdg
  rcases hK m meth c ⟨T.setVm vm₁, locs, cells, slots⟩ { g with stack := rest } (.invokevirtual index) mk (Value.ref b :: argsL).toArray X₁ hg hsize hdg hW (X₁.named hnamed) (hpre vm₁ X₁.warmed) with ⟨v, B, X', hpost, hsteps⟩ | ⟨q, B, X', hpost, hsteps⟩
  · exact Or.inl ⟨v, vm₁, B, X₁.warmed, X', hpost, fun target h => hstep₁ _ fun acts => by rw [doInvoke_state]; exact hsteps.trans h⟩
  · exact Or.inr ⟨q, vm₁, B, X₁.warmed, X', hpost, hstep₁ _ fun acts => by rw [doInvoke_state]; exact hsteps⟩
theorem vx_callSX (X : Stand p l e R s m args below meth c T locs cells slots) (hexec : p.tables.exec = Jvm.exec) {own : String} {index : Nat} {y : MethodName} {bytes : ByteArray} {maxL : Nat} {ret : Option FieldType} {hh : List (Nat × Nat × Nat × Nat)}
    (hown : s.vm.findClass own = some m.cls) (hlink : (Cond.methodLink own index y).before args s = true) (hstat : (Cond.static y).before args s = true) (hinit : (Cond.initialized y.cls).before args s = true)
    (hcode : (Cond.codeWith y bytes maxL ret hh).before args s = true) (hy : y.cls ≠ "java/lang/invoke/MethodHandle" ∧ y.cls ≠ "java/lang/invoke/VarHandle")
    {W9 : Nat} {Pre : Pt → Array Value → Prop} {Post : Pt → Array Value → Option Value → Pt → Prop} {PostX : Pt → Array Value → Addr → Pt → Prop} (hK : vx_Back l R p e below s args y 3 W9 Pre Post PostX)
    {g : JFrame} (hg : g.method = m) (hsize : g.locals.size = c.maxLocals) {argsL rest : List Value} (hlen : ∀ sig, parseMethodDescriptor y.desc = some sig → argsL.length = sig.parameters.length)
    (hstack : g.stack = argsL.reverse ++ rest) (hW : 2 * g.monitorRoom + (rest.map fun v => v.category).sum ≤ W9) (hdg : decode c.code g.pc = .ok (.invokestatic index, 3))
    (hpre : ∀ vm₁, s.WarmedH vm₁ → Pre ⟨T.setVm vm₁, locs, cells, slots⟩ argsL.toArray) :
    (∃ (v : Option Value) (vm₁ : Vm) (B : Pt), s.WarmedH vm₁ ∧ Stand p l e R s m args below meth c B.U B.locs B.cells B.slots ∧ Post ⟨T.setVm vm₁, locs, cells, slots⟩ argsL.toArray v B ∧
      ∀ target, Steps p.tables e below (B.U.setTop { g with pc := g.pc + 3, stack := v.toList ++ rest }) target → Steps p.tables e below (T.setTop g) target) ∨
    (∃ (q : Addr) (vm₁ : Vm) (B : Pt), s.WarmedH vm₁ ∧ Stand p l e R s m args below meth c B.U B.locs B.cells B.slots ∧ PostX ⟨T.setVm vm₁, locs, cells, slots⟩ argsL.toArray q B ∧
      Steps p.tables e below (T.setTop g) ((B.U.setTop { g with stack := rest }).pushFrame (.throwing q))) := by
  obtain ⟨mk, methM, cM, hnamed, hmethM, -, -, -, -, -, -, hsigM⟩ := Cond.codeWith_spec hcode
  have hstatic : methM.isStatic = true := Cond.static_spec hnamed hmethM hstat
  obtain ⟨kP, hkP, -⟩ := className_of_methodNamed hnamed
  have hinitP : kP.init = .initialized := Cond.initialized_spec (findClass_of_methodNamed hnamed) hkP hinit
  obtain ⟨vm₁, X₁, hstep₁⟩ := X.invokestatic hexec hown hlink hnamed hmethM hstatic hkP hinitP hy (g := g) hg (argsL := argsL) (rest := rest) (hlen _ hsigM) hstack hdg
  rcases hK m meth c ⟨T.setVm vm₁, locs, cells, slots⟩ { g with stack := rest } (.invokestatic index) mk argsL.toArray X₁ hg hsize hdg hW (X₁.named hnamed) (hpre vm₁ X₁.warmed) with ⟨v, B, X', hpost, hsteps⟩ | ⟨q, B, X', hpost, hsteps⟩
  · exact Or.inl ⟨v, vm₁, B, X₁.warmed, X', hpost, fun target h => hstep₁ _ fun acts => by rw [doInvoke_state]; exact hsteps.trans h⟩
  · exact Or.inr ⟨q, vm₁, B, X₁.warmed, X', hpost, hstep₁ _ fun acts => by rw [doInvoke_state]; exact hsteps⟩
theorem vx_callVW (X : Stand p l e R s m args below meth c T locs cells slots) (hexec : p.tables.exec = Jvm.exec) {own C : String} {index : Nat} {y : MethodName} {bytes : ByteArray} {maxL : Nat} {ret : Option FieldType} {hh : List (Nat × Nat × Nat × Nat)}
    (hown : s.vm.findClass own = some m.cls) (hlink : (Cond.methodLink own index y).before args s = true) (hinst : (Cond.instanceMethod y).before args s = true) (hsel : (Cond.selects C y y).before args s = true)
    (hcode : (Cond.codeWith y bytes maxL ret hh).before args s = true) (hy : y.cls ≠ "java/lang/invoke/MethodHandle" ∧ y.cls ≠ "java/lang/invoke/VarHandle")
    {W9 : Nat} {Pre : Pt → Array Value → Prop} {Post : Pt → Array Value → Option Value → Pt → Prop} (hK : Back l R p e below s args y 3 W9 Pre Post)
    {b : Addr} {cellB : Cell} (hcell : T.heap[b]? = some cellB) (hobj : cellB.vm.isStatics = false) (hcls : s.vm.findClass C = some cellB.cls)
    {g : JFrame} (hg : g.method = m) (hsize : g.locals.size = c.maxLocals) {argsL rest : List Value} (hlen : ∀ sig, parseMethodDescriptor y.desc = some sig → argsL.length = sig.parameters.length)
    (hstack : g.stack = argsL.reverse ++ .ref b :: rest) (hW : 2 * g.monitorRoom + (rest.map fun v => v.category).sum ≤ W9) (hdg : decode c.code g.pc = .ok (.invokevirtual index, 3))
    (hpre : ∀ vm₁, s.WarmedH vm₁ → Pre ⟨T.setVm vm₁, locs, cells, slots⟩ (Value.ref b :: argsL).toArray) :
    ∃ (v : Option Value) (vm₁ : Vm) (B : Pt), s.WarmedH vm₁ ∧ Stand p l e R s m args below meth c B.U B.locs B.cells B.slots ∧ Post ⟨T.setVm vm₁, locs, cells, slots⟩ (Value.ref b :: argsL).toArray v B ∧
      ∀ target, Steps p.tables e below (B.U.setTop { g with pc := g.pc + 3, stack := v.toList ++ rest }) target → Steps p.tables e below (T.setTop g) target := by
  obtain ⟨mk, methM, hnamed, hmethM, hstM, habM⟩ := Cond.instanceMethod_spec hinst
  obtain ⟨m8, methM', cM, hn8, hmethM', -, -, -, -, -, -, hsigM⟩ := Cond.codeWith_spec hcode
  cases Option.some.inj (hn8.symm.trans hnamed)
  cases hmethM.symm.trans hmethM'
  obtain ⟨c2, r2, m2, q1, q2, q3, q4, kP, hkP, hkPi⟩ := Cond.selects_spec hsel
  cases hcls.symm.trans q1
  cases (State.methodFound?_of_named hnamed hy).symm.trans q2
  cases hnamed.symm.trans q3
  have hselP : selectMethod e.platform s.vm cellB.cls mk = .method mk := by rw [Launch.admits_selectMethod X.admits]; exact q4
  obtain ⟨vm₁, X₁, hstep₁⟩ := X.invokevirtual hexec hown hlink hnamed hmethM hstM hkP hkPi hy (a := b) (cell := cellB) hcell
    (fun z h => by rw [h] at hobj; cases hobj) hselP hmethM habM hkP hkPi (g := g) hg (argsL := argsL) (rest := rest) (hlen _ hsigM) hstack hdg
  obtain ⟨v, B, X', hpost, hsteps⟩ := hK m meth c ⟨T.setVm vm₁, locs, cells, slots⟩ { g with stack := rest } (.invokevirtual index) mk (Value.ref b :: argsL).toArray X₁ hg hsize hdg hW (X₁.named hnamed) (hpre vm₁ X₁.warmed)
  exact ⟨v, vm₁, B, X₁.warmed, X', hpost, fun target h => hstep₁ _ fun acts => by rw [doInvoke_state]; exact hsteps.trans h⟩
abbrev vx_CVW (R : Room) (s : State) (args : Array Value) (own C : String) (index : Nat) (y : MethodName) (bytes : ByteArray) (maxL : Nat) (ret : Option FieldType) (hh : List (Nat × Nat × Nat × Nat)) (ws : List Cond) (rm : Room) (mc ms n : Nat) : Prop :=
  (rm.cells = mc ∧ rm.slots = ms ∧ rm.frames + 1 ≤ R.frames ∧ 8 + (maxL + 11) + rm.locals ≤ R.locals ∧ (∀ w ∈ ws, ∀ (a' : Array Value) (U : State), s.WarmedH U.vm → w.before a' U = true) ∧ Cond.codeWith y bytes maxL ret hh ∈ ws) ∧
  (Cond.codeWith y bytes maxL ret hh).before args s = true ∧ (Cond.initialized y.cls).before args s = true ∧ (y.cls ≠ "java/lang/invoke/MethodHandle" ∧ y.cls ≠ "java/lang/invoke/VarHandle") ∧
  (∀ sig, parseMethodDescriptor y.desc = some sig → n = sig.parameters.length) ∧ (Cond.methodLink own index y).before args s = true ∧ (Cond.instanceMethod y).before args s = true ∧ (Cond.selects C y y).before args s = true
theorem vx_cwVW {own C : String} {index maxL mc ms : Nat} {y : MethodName} {bytes : ByteArray} {ret : Option FieldType} {hh : List (Nat × Nat × Nat × Nat)} {Ts ws ws' : List Cond} {rm : Room} (n : Nat) (ht : ∀ w ∈ Ts, w.before args s = true) (hT : GoodIn Ts (wsV own index C y ws)) (hw : ws = Cond.codeWith y bytes maxL ret hh :: ws') (hrc : rm.cells = mc) (hrs : rm.slots = ms)
    (hd : y.cls = C ∧ y.cls ≠ "java/lang/invoke/MethodHandle" ∧ y.cls ≠ "java/lang/invoke/VarHandle" ∧ (parseMethodDescriptor y.desc).map (fun d => d.parameters.length) = some n) (hR : rm.frames + 1 ≤ R.frames ∧ 8 + (maxL + 11) + rm.locals ≤ R.locals) :
    vx_CVW R s args own C index y bytes maxL ret hh ws rm mc ms n := by
  obtain ⟨hC, hd⟩ := hd
  subst hC
  have ok : ∀ w ∈ wsV own index y.cls y ws, w.before args s = true := fun w h => ht w (hT w h).1
  have hG : GoodIn Ts ws := fun w h => hT w (by unfold wsV; exact List.mem_append_right _ h)
  have hc : Cond.codeWith y bytes maxL ret hh ∈ ws := by rw [hw]; exact List.mem_cons_self
  refine ⟨⟨hrc, hrs, hR.1, hR.2, pay_in ht hG, hc⟩, ht _ (hG _ hc).1, ok _ (by simp [wsV]), ⟨hd.1, hd.2.1⟩, fun sig h => ?_, ok _ (by simp [wsV]), ok _ (by simp [wsV]), ok _ (by simp [wsV])⟩
  have h2 := hd.2.2
  rw [h] at h2
  exact (Option.some.inj h2).symm
theorem vx_runVW {y : MethodName} {bytes cc : ByteArray} {maxL nL mc ms n index : Nat} {ret : Option FieldType} {hh : List (Nat × Nat × Nat × Nat)} {ws : List Cond} {rm : Room} {Pc : Array Value → State → Prop} {Qc : Array Value → State → Outcome → State → Prop} {free : Addr → Prop} {Ts : List Cond} {own C : String} {b : Addr} {As rest : List Value} {g : JFrame}
    (S : CallFix p m c cc nL s args Ts own) (hM : Met l y ws rm Pc Qc mc ms free) (cw : vx_CVW R s args own C index y bytes maxL ret hh ws rm mc ms n) (hp : PreV s H C b Pc As)
    (hg : g.method = m) (hn : As.length = n) (hsize : g.locals.size = nL) (hstack : g.stack = As.reverse ++ .ref b :: rest) (hW : 2 * g.monitorRoom + (rest.map fun v => v.category).sum ≤ 8) (hdg : decode cc g.pc = .ok (.invokevirtual index, 3)) (hf : cells + mc ≤ R.cells ∧ slots + ms ≤ R.slots) :
    va_Run p l e R s m args below meth c H locs cells slots mc ms g rest (Qc (Value.ref b :: As).toArray) free := by
  obtain ⟨⟨hrc, hrs, hfr, hlo, hws, hcw⟩, hcode, hini, hy, hlen, hl, hin, hse⟩ := cw
  have hK : Back l R p e below s args y 3 8 (PreOf R mc ms Pc) (PostOf Qc mc ms free) := va_backW (hh := hh) (bytes := bytes) (maxL := maxL) (ret := ret) hM hp.1 hrc hrs hfr hlo hws hcw (fun a' U hW => word_at hW (Or.inl (by first | rfl | simp [Cond.onTables, Cond.keeps, Cond.steady])) hini)
  obtain ⟨hx, hb, hml, ho, -⟩ := S
  obtain ⟨-, ⟨cellB, hcB, hoB, hclB⟩, hPc⟩ := hp
  intro T hT X
  obtain ⟨v, vm₁, ⟨U', l2, c2, s2⟩, hW₁, X', ⟨g', mk, t, L, e1, e2, hq, h1, hL, h2, h3⟩, st⟩ := vx_callVW X hx (C := C) (hh := hh) (bytes := bytes) (maxL := maxL) (ret := ret) ho hl hin hse hcode hy hK (by rw [hT]; exact hcB) hoB hclB hg (hsize.trans hml.symm) (argsL := As) (rest := rest) (fun sig h => hn.trans (hlen sig h)) hstack hW (by rw [hb]; exact hdg)
    (fun vm₁ hW₁ => ⟨hf.1, hf.2, hPc (T.setVm vm₁) hT hW₁⟩)
  dsimp only [Pt.U, Pt.locs, Pt.cells, Pt.slots] at X' e1 e2 h1 h2 h3 st
  subst h1; subst h2; subst h3
  exact ⟨v, (T.setVm vm₁).calling g' mk (Value.ref b :: As).toArray, t, U', L, hT, X', hL, e1, e2, hq, st⟩
section
variable {y : MethodName} {bytes cc : ByteArray} {maxL nL mc ms n index : Nat} {ret : Option FieldType} {ws : List Cond} {rm : Room} {Pc : Array Value → State → Prop} {Qc : Array Value → State → Outcome → State → Prop} {XC : String → State → State → Prop} {free : Addr → Prop} {Ts : List Cond} {own C : String} {b : Addr} {As rest : List Value} {g : JFrame}
theorem vx_runVX {hh : List (Nat × Nat × Nat × Nat)} (S : CallFix p m c cc nL s args Ts own) (hM : vx_Met l y ws rm Pc Qc XC mc ms free) (cw : vx_CVW R s args own C index y bytes maxL ret hh ws rm mc ms n) (hp : PreV s H C b Pc As)
    (hg : g.method = m) (hn : As.length = n) (hsize : g.locals.size = nL) (hstack : g.stack = As.reverse ++ .ref b :: rest) (hW : 2 * g.monitorRoom + (rest.map fun v => v.category).sum ≤ 8) (hdg : decode cc g.pc = .ok (.invokevirtual index, 3)) (hf : cells + mc ≤ R.cells ∧ slots + ms ≤ R.slots) :
    vx_Run p l e R s m args below meth c H locs cells slots mc ms g rest (Qc (Value.ref b :: As).toArray) XC free := by
  obtain ⟨⟨hrc, hrs, hfr, hlo, hws, hcw⟩, hcode, hini, hy, hlen, hl, hin, hse⟩ := cw
  have hK : vx_Back l R p e below s args y 3 8 (PreOf R mc ms Pc) (PostOf Qc mc ms free) (vx_Post XC mc ms free) := vx_backW (hh := hh) (bytes := bytes) (maxL := maxL) (ret := ret) hM hp.1 hrc hrs hfr hlo hws hcw (fun a' U hW => word_at hW (Or.inl (by first | rfl | simp [Cond.onTables, Cond.keeps, Cond.steady])) hini)
  obtain ⟨hx, hb, hml, ho, -⟩ := S
  obtain ⟨-, ⟨cellB, hcB, hoB, hclB⟩, hPc⟩ := hp
  intro T hT X
  rcases vx_callVX X hx (C := C) (hh := hh) (bytes := bytes) (maxL := maxL) (ret := ret) ho hl hin hse hcode hy hK (by rw [hT]; exact hcB) hoB hclB hg (hsize.trans hml.symm) (argsL := As) (rest := rest) (fun sig h => hn.trans (hlen sig h)) hstack hW (by rw [hb]; exact hdg)
    (fun vm₁ hW₁ => ⟨hf.1, hf.2, hPc (T.setVm vm₁) hT hW₁⟩) with ⟨v, vm₁, ⟨U', l2, c2, s2⟩, hW₁, X', ⟨g', mk, t, L, e1, e2, hq, h1, hL, h2, h3⟩, st⟩ | ⟨q, vm₁, ⟨U', l2, c2, s2⟩, hW₁, X', ⟨g', mk, t, L, E, ce, e1, e2, hq, hce, hcv, hcl, h1, hL, h2, h3⟩, st⟩
  · dsimp only [Pt.U, Pt.locs, Pt.cells, Pt.slots] at X' e1 e2 h1 h2 h3 st
    subst h1; subst h2; subst h3
    exact Or.inl ⟨v, (T.setVm vm₁).calling g' mk (Value.ref b :: As).toArray, t, U', L, hT, X', hL, e1, e2, hq, st⟩
  · dsimp only [Pt.U, Pt.locs, Pt.cells, Pt.slots] at X' e1 e2 h1 h2 h3 st hcl
    subst h1; subst h2; subst h3
    exact Or.inr ⟨q, (T.setVm vm₁).calling g' mk (Value.ref b :: As).toArray, t, U', L, E, ce, hT, X', hL, e1, e2, hq, hce, hcv, vx_cls hW₁ hcl, st⟩
theorem vx_runSX {hh : List (Nat × Nat × Nat × Nat)} (S : CallFix p m c cc nL s args Ts own) (hM : vx_Met l y ws rm Pc Qc XC mc ms free) (cw : vx_CSW R s args own index y bytes maxL ret hh ws rm mc ms n) (hp : PreS s H Pc As)
    (hg : g.method = m) (hn : As.length = n) (hsize : g.locals.size = nL) (hstack : g.stack = As.reverse ++ rest) (hW : 2 * g.monitorRoom + (rest.map fun v => v.category).sum ≤ 8) (hdg : decode cc g.pc = .ok (.invokestatic index, 3)) (hf : cells + mc ≤ R.cells ∧ slots + ms ≤ R.slots) :
    vx_Run p l e R s m args below meth c H locs cells slots mc ms g rest (Qc As.toArray) XC free := by
  obtain ⟨⟨hrc, hrs, hfr, hlo, hws, hcw⟩, hcode, hini, hy, hlen, hl, hstt⟩ := cw
  have hK : vx_Back l R p e below s args y 3 8 (PreOf R mc ms Pc) (PostOf Qc mc ms free) (vx_Post XC mc ms free) := vx_backW (hh := hh) (bytes := bytes) (maxL := maxL) (ret := ret) hM hp.1 hrc hrs hfr hlo hws hcw (fun a' U hW => word_at hW (Or.inl (by first | rfl | simp [Cond.onTables, Cond.keeps, Cond.steady])) hini)
  obtain ⟨hx, hb, hml, ho, -⟩ := S
  intro T hT X
  rcases vx_callSX X hx (hh := hh) (bytes := bytes) (maxL := maxL) (ret := ret) ho hl hstt hini hcode hy hK hg (hsize.trans hml.symm) (argsL := As) (rest := rest) (fun sig h => hn.trans (hlen sig h)) hstack hW (by rw [hb]; exact hdg)
    (fun vm₁ hW₁ => ⟨hf.1, hf.2, hp.2 (T.setVm vm₁) hT hW₁⟩) with ⟨v, vm₁, ⟨U', l2, c2, s2⟩, hW₁, X', ⟨g', mk, t, L, e1, e2, hq, h1, hL, h2, h3⟩, st⟩ | ⟨q, vm₁, ⟨U', l2, c2, s2⟩, hW₁, X', ⟨g', mk, t, L, E, ce, e1, e2, hq, hce, hcv, hcl, h1, hL, h2, h3⟩, st⟩
  · dsimp only [Pt.U, Pt.locs, Pt.cells, Pt.slots] at X' e1 e2 h1 h2 h3 st
    subst h1; subst h2; subst h3
    exact Or.inl ⟨v, (T.setVm vm₁).calling g' mk As.toArray, t, U', L, hT, X', hL, e1, e2, hq, st⟩
  · dsimp only [Pt.U, Pt.locs, Pt.cells, Pt.slots] at X' e1 e2 h1 h2 h3 st hcl
    subst h1; subst h2; subst h3
    exact Or.inr ⟨q, (T.setVm vm₁).calling g' mk As.toArray, t, U', L, E, ce, hT, X', hL, e1, e2, hq, hce, hcv, vx_cls hW₁ hcl, st⟩
end
end VXH
theorem vx_ofWH {l : Launch} {y : MethodName} {ws ws' : List Cond} {rm : Room} {Pc : Array Value → State → Prop} {Qc : Array Value → State → Outcome → State → Prop} {XC : String → State → State → Prop} {mc ms : Nat} {free : Addr → Prop} {cc : ByteArray} {maxL : Nat} {ret : Option FieldType} {hh : List (Nat × Nat × Nat × Nat)}
    (hy : plainName y.cls = true) (hw : ws = Cond.codeWith y cc maxL ret hh :: ws')
    (body : ∀ p e s m args below meth c s₁, BodyLoose p l y (headSpec ws rm) cc maxL ret e s m args below meth c s₁ → c.maxLocals = maxL → Pc args s →
      W p l e (headSpec ws rm).room s m args below meth c s.heap [] 0 0 (vx_MQ below Qc XC args s mc ms free) (entryFrame m args maxL)) : vx_Met l y ws rm Pc Qc XC mc ms free := by
  refine MetFree.of_bodyS (code := cc) (maxLocals := maxL) (ret := ret) hy ?_ ?_
  · intro args s m h hn
    obtain ⟨m9, meth, c, hn9, h1, h2, h3, h4, -, h5, h6, -⟩ := Cond.codeWith_spec (atoms_spec (ws := ws) h _ (by rw [hw]; exact List.mem_cons_self))
    cases hn.symm.trans hn9
    exact ⟨meth, c, h1, h2, h3, h4, h5, h6⟩
  · intro p e s m args below meth c s₁ B hml hP _
    have hh0 : s₁.heap = s.heap := by rw [B.state]; rfl
    obtain ⟨t, a1, o, b1, b2, b3⟩ := body p e s m args below meth c s₁ B hml hP s₁ hh0 (Stand.of_body B)
    exact ⟨t, o, a1, b1, b2, b3⟩
/-! ===== END ===== -/

section VXIA
variable {p : Program} {l : Launch} {e : Env} {R : Room} {s : State} {m : MethodId} {args : Array Value} {below : List Frame} {meth : Method} {c : Code} {T : State} {locs : List Loc} {cells slots : Nat}
theorem vx_callI (X : Stand p l e R s m args below meth c T locs cells slots) (hexec : p.tables.exec = Jvm.exec) {own : String} {index : Nat} {y : MethodName} {bytes : ByteArray} {maxL : Nat}
    (hown : s.vm.findClass own = some m.cls) (hy1 : y.name = "<init>") (hlink : (Cond.methodLink own index y).before args s = true) (hinst : (Cond.instanceMethod y).before args s = true)
    (hcode : (Cond.code y bytes maxL none).before args s = true) (hy : y.cls ≠ "java/lang/invoke/MethodHandle" ∧ y.cls ≠ "java/lang/invoke/VarHandle")
    {W9 : Nat} {Pre : Pt → Array Value → Prop} {Post : Pt → Array Value → Option Value → Pt → Prop} {PostX : Pt → Array Value → Addr → Pt → Prop} (hK : vx_Back l R p e below s args y 3 W9 Pre Post PostX)
    {g : JFrame} (hg : g.method = m) (hsize : g.locals.size = c.maxLocals) {a : Addr} {argsL rest : List Value} (hlen : ∀ sig, parseMethodDescriptor y.desc = some sig → argsL.length = sig.parameters.length)
    (hstack : g.stack = argsL.reverse ++ .ref a :: rest) (hW : 2 * g.monitorRoom + (rest.map fun v => v.category).sum ≤ W9) (hdg : decode c.code g.pc = .ok (.invokespecial index, 3))
    (hpre : ∀ vm₁, s.WarmedH vm₁ → Pre ⟨T.setVm vm₁, locs, cells, slots⟩ (Value.ref a :: argsL).toArray) :
    (∃ (v : Option Value) (vm₁ : Vm) (B : Pt), s.WarmedH vm₁ ∧ Stand p l e R s m args below meth c B.U B.locs B.cells B.slots ∧ Post ⟨T.setVm vm₁, locs, cells, slots⟩ (Value.ref a :: argsL).toArray v B ∧
      ∀ target, Steps p.tables e below (B.U.setTop { g with pc := g.pc + 3, stack := v.toList ++ rest }) target → Steps p.tables e below (T.setTop g) target) ∨
    (∃ (q : Addr) (vm₁ : Vm) (B : Pt), s.WarmedH vm₁ ∧ Stand p l e R s m args below meth c B.U B.locs B.cells B.slots ∧ PostX ⟨T.setVm vm₁, locs, cells, slots⟩ (Value.ref a :: argsL).toArray q B ∧
      Steps p.tables e below (T.setTop g) ((B.U.setTop { g with stack := rest }).pushFrame (.throwing q))) := by
  subst hg
  have hpl : e.platform.magicAccessors = ({} : Platform).magicAccessors := by rw [X.admits.platform]
  obtain ⟨mk, methM, cM, kP, vm₁, hnamed, hmethM, hcodeM, -, hlocalsM, -, hkP, -, hW₁, hstep₁⟩ := Steps.initColdArgs (e := e) X.here hexec X.warmed hpl hown hy1 hy hlink hinst hcode (f := g) rfl hlen hstack hdg
  have X₁ := X.noted hW₁
  rcases hK g.method meth c ⟨T.setVm vm₁, locs, cells, slots⟩ { g with stack := rest } (.invokespecial index) mk (Value.ref a :: argsL).toArray X₁ rfl hsize hdg hW (X₁.named hnamed) (hpre vm₁ X₁.warmed) with ⟨v, B, X', hpost, hsteps⟩ | ⟨q, B, X', hpost, hsteps⟩
  · exact Or.inl ⟨v, vm₁, B, X₁.warmed, X', hpost, fun target h => hstep₁ _ fun acts => by rw [doInvoke_state]; exact hsteps.trans h⟩
  · exact Or.inr ⟨q, vm₁, B, X₁.warmed, X', hpost, hstep₁ _ fun acts => by rw [doInvoke_state]; exact hsteps⟩
end VXIA
section VXIB
variable {p : Program} {l : Launch} {e : Env} {R : Room} {s : State} {m : MethodId} {args : Array Value} {below : List Frame} {meth : Method} {c : Code} {H : Heap} {locs : List Loc} {cells slots : Nat}
variable {y : MethodName} {bytes cc : ByteArray} {maxL nL mc ms n index : Nat} {ret : Option FieldType} {ws : List Cond} {rm : Room} {Pc : Array Value → State → Prop} {Qc : Array Value → State → Outcome → State → Prop} {XC : String → State → State → Prop} {free : Addr → Prop} {Ts : List Cond} {own C : String} {b : Addr} {As rest : List Value} {g : JFrame}
theorem vx_runI (S : CallFix p m c cc nL s args Ts own) (hM : vx_Met l y ws rm Pc Qc XC mc ms free) (cw : CallB R s args own index y bytes maxL none ws rm mc ms n ∧ y.name = "<init>" ∧ (Cond.instanceMethod y).before args s = true) (hp : PreS s H Pc (.ref b :: As))
    (hg : g.method = m) (hn : As.length = n) (hsize : g.locals.size = nL) (hstack : g.stack = As.reverse ++ .ref b :: rest) (hW : 2 * g.monitorRoom + (rest.map fun v => v.category).sum ≤ 8) (hdg : decode cc g.pc = .ok (.invokespecial index, 3)) (hf : cells + mc ≤ R.cells ∧ slots + ms ≤ R.slots) :
    vx_Run p l e R s m args below meth c H locs cells slots mc ms g rest (Qc (Value.ref b :: As).toArray) XC free := by
  have hK : vx_Back l R p e below s args y 3 8 (PreOf R mc ms Pc) (PostOf Qc mc ms free) (vx_Post XC mc ms free) := vx_callBack cw.1 hM hp.1
  obtain ⟨⟨-, -, -, -, -, -, hcode, -, hy, hlen, hl⟩, hy1, hin⟩ := cw
  obtain ⟨hx, hb, hml, ho, -⟩ := S
  have hPc := hp.2
  intro T hT X
  rcases vx_callI X hx (bytes := bytes) (maxL := maxL) ho hy1 hl hin hcode hy hK hg (hsize.trans hml.symm) (a := b) (argsL := As) (rest := rest) (fun sig h => hn.trans (hlen sig h)) hstack hW (by rw [hb]; exact hdg)
    (fun vm₁ hW₁ => ⟨hf.1, hf.2, hPc (T.setVm vm₁) hT hW₁⟩) with ⟨v, vm₁, ⟨U', l2, c2, s2⟩, hW₁, X', ⟨g', mk, t, L, e1, e2, hq, h1, hL, h2, h3⟩, st⟩ | ⟨q, vm₁, ⟨U', l2, c2, s2⟩, hW₁, X', ⟨g', mk, t, L, E, ce, e1, e2, hq, hce, hcv, hcl, h1, hL, h2, h3⟩, st⟩
  · dsimp only [Pt.U, Pt.locs, Pt.cells, Pt.slots] at X' e1 e2 h1 h2 h3 st
    subst h1; subst h2; subst h3
    exact Or.inl ⟨v, (T.setVm vm₁).calling g' mk (Value.ref b :: As).toArray, t, U', L, hT, X', hL, e1, e2, hq, st⟩
  · dsimp only [Pt.U, Pt.locs, Pt.cells, Pt.slots] at X' e1 e2 h1 h2 h3 st hcl
    subst h1; subst h2; subst h3
    exact Or.inr ⟨q, (T.setVm vm₁).calling g' mk (Value.ref b :: As).toArray, t, U', L, E, ce, hT, X', hL, e1, e2, hq, hce, hcv, vx_cls hW₁ hcl, st⟩
end VXIB
/-! ===== END ===== -/
/-! ===== BEGIN a private constructor of a nest mate that throws ===== -/
section VXIC
variable {p : Program} {l : Launch} {e : Env} {R : Room} {s : State} {m : MethodId} {args : Array Value} {below : List Frame} {meth : Method} {c : Code} {T : State} {locs : List Loc} {cells slots : Nat}
theorem vx_callIN (X : Stand p l e R s m args below meth c T locs cells slots) (hexec : p.tables.exec = Jvm.exec) {own : String} {index : Nat} {host : String} {y : MethodName} {bytes : ByteArray} {maxL : Nat}
    (hown : s.vm.findClass own = some m.cls) (hy1 : y.name = "<init>") (hlink : (Cond.methodLinkNest own index y host).before args s = true) (hinst : (Cond.instanceMethod y).before args s = true)
    (hcode : (Cond.code y bytes maxL none).before args s = true) (hy : y.cls ≠ "java/lang/invoke/MethodHandle" ∧ y.cls ≠ "java/lang/invoke/VarHandle")
    {W9 : Nat} {Pre : Pt → Array Value → Prop} {Post : Pt → Array Value → Option Value → Pt → Prop} {PostX : Pt → Array Value → Addr → Pt → Prop} (hK : vx_Back l R p e below s args y 3 W9 Pre Post PostX)
    {g : JFrame} (hg : g.method = m) (hsize : g.locals.size = c.maxLocals) {a : Addr} {argsL rest : List Value} (hlen : ∀ sig, parseMethodDescriptor y.desc = some sig → argsL.length = sig.parameters.length)
    (hstack : g.stack = argsL.reverse ++ .ref a :: rest) (hW : 2 * g.monitorRoom + (rest.map fun v => v.category).sum ≤ W9) (hdg : decode c.code g.pc = .ok (.invokespecial index, 3))
    (hpre : ∀ vm₁, s.WarmedH vm₁ → Pre ⟨T.setVm vm₁, locs, cells, slots⟩ (Value.ref a :: argsL).toArray) :
    (∃ (v : Option Value) (vm₁ : Vm) (B : Pt), s.WarmedH vm₁ ∧ Stand p l e R s m args below meth c B.U B.locs B.cells B.slots ∧ Post ⟨T.setVm vm₁, locs, cells, slots⟩ (Value.ref a :: argsL).toArray v B ∧
      ∀ target, Steps p.tables e below (B.U.setTop { g with pc := g.pc + 3, stack := v.toList ++ rest }) target → Steps p.tables e below (T.setTop g) target) ∨
    (∃ (q : Addr) (vm₁ : Vm) (B : Pt), s.WarmedH vm₁ ∧ Stand p l e R s m args below meth c B.U B.locs B.cells B.slots ∧ PostX ⟨T.setVm vm₁, locs, cells, slots⟩ (Value.ref a :: argsL).toArray q B ∧
      Steps p.tables e below (T.setTop g) ((B.U.setTop { g with stack := rest }).pushFrame (.throwing q))) := by
  subst hg
  have hpl : e.platform.magicAccessors = ({} : Platform).magicAccessors := by rw [X.admits.platform]
  obtain ⟨mk, methM, cM, kP, vm₁, hnamed, hmethM, hcodeM, -, hlocalsM, -, hkP, -, hW₁, hstep₁⟩ := Steps.initColdArgsNest (e := e) X.here hexec X.warmed hpl hown hy1 hy hlink hinst hcode (f := g) rfl hlen hstack hdg
  have X₁ := X.noted hW₁
  rcases hK g.method meth c ⟨T.setVm vm₁, locs, cells, slots⟩ { g with stack := rest } (.invokespecial index) mk (Value.ref a :: argsL).toArray X₁ rfl hsize hdg hW (X₁.named hnamed) (hpre vm₁ X₁.warmed) with ⟨v, B, X', hpost, hsteps⟩ | ⟨q, B, X', hpost, hsteps⟩
  · exact Or.inl ⟨v, vm₁, B, X₁.warmed, X', hpost, fun target h => hstep₁ _ fun acts => by rw [doInvoke_state]; exact hsteps.trans h⟩
  · exact Or.inr ⟨q, vm₁, B, X₁.warmed, X', hpost, hstep₁ _ fun acts => by rw [doInvoke_state]; exact hsteps⟩
end VXIC
section VXID
variable {p : Program} {l : Launch} {e : Env} {R : Room} {s : State} {m : MethodId} {args : Array Value} {below : List Frame} {meth : Method} {c : Code} {H : Heap} {locs : List Loc} {cells slots : Nat}
theorem vx_runIN {y : MethodName} {bytes cc : ByteArray} {maxL nL mc ms n index : Nat} {ws : List Cond} {rm : Room} {Pc : Array Value → State → Prop} {Qc : Array Value → State → Outcome → State → Prop} {XC : String → State → State → Prop} {free : Addr → Prop} {Ts : List Cond} {own host : String} {b : Addr} {As rest : List Value} {g : JFrame}
    (S : CallFix p m c cc nL s args Ts own) (hM : vx_Met l y ws rm Pc Qc XC mc ms free) (cw : va_CN R s args own index y host bytes maxL none ws rm mc ms n ∧ y.name = "<init>" ∧ (Cond.instanceMethod y).before args s = true) (hp : PreS s H Pc (.ref b :: As))
    (hg : g.method = m) (hn : As.length = n) (hsize : g.locals.size = nL) (hstack : g.stack = As.reverse ++ .ref b :: rest) (hW : 2 * g.monitorRoom + (rest.map fun v => v.category).sum ≤ 8) (hdg : decode cc g.pc = .ok (.invokespecial index, 3)) (hf : cells + mc ≤ R.cells ∧ slots + ms ≤ R.slots) :
    vx_Run p l e R s m args below meth c H locs cells slots mc ms g rest (Qc (Value.ref b :: As).toArray) XC free := by
  obtain ⟨⟨⟨hrc, hrs, hfr, hlo, hws, hcw⟩, hcode, hini, hy, hlen, hl⟩, hx1, hx2⟩ := cw
  have hK : vx_Back l R p e below s args y 3 8 (PreOf R mc ms Pc) (PostOf Qc mc ms free) (vx_Post XC mc ms free) := vx_back (bytes := bytes) (maxL := maxL) (ret := none) hM hp.1 hrc hrs hfr hlo hws hcw (fun a' U hW => word_at hW (Or.inl (by first | rfl | simp [Cond.onTables, Cond.keeps, Cond.steady])) hini)
  obtain ⟨hx, hb, hml, ho, -⟩ := S
  have hPc := hp.2
  intro T hT X
  rcases vx_callIN X hx (bytes := bytes) (maxL := maxL) ho hx1 hl hx2 hcode hy hK hg (hsize.trans hml.symm) (a := b) (argsL := As) (rest := rest) (fun sig h => hn.trans (hlen sig h)) hstack hW (by rw [hb]; exact hdg)
    (fun vm₁ hW₁ => ⟨hf.1, hf.2, hPc (T.setVm vm₁) hT hW₁⟩) with ⟨v, vm₁, ⟨U', l2, c2, s2⟩, hW₁, X', ⟨g', mk, t, L, e1, e2, hq, h1, hL, h2, h3⟩, st⟩ | ⟨q, vm₁, ⟨U', l2, c2, s2⟩, hW₁, X', ⟨g', mk, t, L, E, ce, e1, e2, hq, hce, hcv, hcl, h1, hL, h2, h3⟩, st⟩
  · dsimp only [Pt.U, Pt.locs, Pt.cells, Pt.slots] at X' e1 e2 h1 h2 h3 st
    subst h1; subst h2; subst h3
    exact Or.inl ⟨v, (T.setVm vm₁).calling g' mk (Value.ref b :: As).toArray, t, U', L, hT, X', hL, e1, e2, hq, st⟩
  · dsimp only [Pt.U, Pt.locs, Pt.cells, Pt.slots] at X' e1 e2 h1 h2 h3 st hcl
    subst h1; subst h2; subst h3
    exact Or.inr ⟨q, (T.setVm vm₁).calling g' mk (Value.ref b :: As).toArray, t, U', L, E, ce, hT, X', hL, e1, e2, hq, hce, hcv, vx_cls hW₁ hcl, st⟩
end VXID
/-! ===== BEGIN printed: names, fields, word lists, decode rows ===== -/
def RX0 : String := "ElidedLocks$Guess"
def TX0 : u_T := fun k => match k with
  | 0 => ("ElidedLocks$Guess", "on", "Z", false)
  | 1 => ("ElidedLocks$Guess", "beganAt", "I", false)
  | 2 => ("ElidedLocks$Guess", "beganSum", "I", false)
  | 3 => ("ElidedLocks$Guess", "beganTick", "I", false)
  | 4 => ("ElidedLocks$Guess", "leftOut", "[I", true)
  | 5 => ("ElidedLocks$Guess", "left", "I", false)
  | 6 => ("ElidedLocks$Guess", "reads", "I", false)
  | 7 => ("ElidedLocks$Guess", "writes", "I", false)
  | 8 => ("ElidedLocks$Guess", "values", "[I", true)
  | _ => ("ElidedLocks$Guess", "valued", "I", false)
def tyX0 : Nat → FieldType := fun k => match k with
  | 0 => .boolean
  | 1 => .int
  | 2 => .int
  | 3 => .int
  | 4 => .array .int
  | 5 => .int
  | 6 => .int
  | 7 => .int
  | 8 => .array .int
  | _ => .int
abbrev wsX00 : List Cond := u_ws RX0 TX0 10
theorem nmX0 : ∀ a, a < 10 → ∀ b, b < 10 → a ≠ b → (TX0 a).2.1 ≠ (TX0 b).2.1 := by decide +kernel
theorem tyX0_ok : ∀ k, k < 10 → parseFieldDescriptor (TX0 k).2.2.1 = some (tyX0 k) := by decide +kernel
abbrev cX0_init : ByteArray := prog_2_method_1_code
def yX0_init : MethodName := ⟨RX0, "<init>", "()V"⟩
abbrev cX0_copyFrom : ByteArray := prog_2_method_2_code
def yX0_copyFrom : MethodName := ⟨RX0, "copyFrom", "(LElidedLocks$Guess;)V"⟩
abbrev cX0_begin : ByteArray := prog_2_method_3_code
def yX0_begin : MethodName := ⟨RX0, "begin", "(III)V"⟩
abbrev cX0_close : ByteArray := prog_2_method_4_code
def yX0_close : MethodName := ⟨RX0, "close", "()V"⟩
abbrev cX0_leavesOut : ByteArray := prog_2_method_5_code
def yX0_leavesOut : MethodName := ⟨RX0, "leavesOut", "(I)Z"⟩
abbrev cX0_leaveOut : ByteArray := prog_2_method_6_code
def yX0_leaveOut : MethodName := ⟨RX0, "leaveOut", "(I)V"⟩
abbrev cX0_latestLeftOut : ByteArray := prog_2_method_7_code
def yX0_latestLeftOut : MethodName := ⟨RX0, "latestLeftOut", "()I"⟩
abbrev cX0_write : ByteArray := prog_2_method_8_code
def yX0_write : MethodName := ⟨RX0, "write", "(III)V"⟩
abbrev cX0_hasValue : ByteArray := prog_2_method_9_code
def yX0_hasValue : MethodName := ⟨RX0, "hasValue", "(I)Z"⟩
def RX1 : String := "ElidedLocks$Lock"
def TX1 : u_T := fun k => match k with
  | 0 => ("ElidedLocks$Lock", "word", "I", false)
  | 1 => ("ElidedLocks$Lock", "trust", "I", false)
  | 2 => ("ElidedLocks$Lock", "taken", "I", false)
  | _ => ("ElidedLocks$Lock", "kept", "I", false)
def tyX1 : Nat → FieldType := fun k => match k with
  | 0 => .int
  | 1 => .int
  | 2 => .int
  | _ => .int
abbrev wsX10 : List Cond := u_ws RX1 TX1 4
theorem nmX1 : ∀ a, a < 4 → ∀ b, b < 4 → a ≠ b → (TX1 a).2.1 ≠ (TX1 b).2.1 := by decide +kernel
theorem tyX1_ok : ∀ k, k < 4 → parseFieldDescriptor (TX1 k).2.2.1 = some (tyX1 k) := by decide +kernel
abbrev cX1_init : ByteArray := prog_3_method_1_code
def yX1_init : MethodName := ⟨RX1, "<init>", "(I)V"⟩
abbrev cX1_copyFrom : ByteArray := prog_3_method_2_code
def yX1_copyFrom : MethodName := ⟨RX1, "copyFrom", "(LElidedLocks$Lock;)V"⟩
abbrev cX1_gain : ByteArray := prog_3_method_3_code
def yX1_gain : MethodName := ⟨RX1, "gain", "(I)V"⟩
abbrev cX1_lose : ByteArray := prog_3_method_4_code
def yX1_lose : MethodName := ⟨RX1, "lose", "(I)V"⟩
def RX2 : String := "ElidedLocks$Log"
def TX2 : u_T := fun k => match k with
  | 0 => ("ElidedLocks$Log", "cells", "[I", true)
  | 1 => ("ElidedLocks$Log", "size", "I", false)
  | _ => ("ElidedLocks$Log", "next", "I", false)
def tyX2 : Nat → FieldType := fun k => match k with
  | 0 => .array .int
  | 1 => .int
  | _ => .int
abbrev wsX20 : List Cond := u_ws RX2 TX2 3
theorem nmX2 : ∀ a, a < 3 → ∀ b, b < 3 → a ≠ b → (TX2 a).2.1 ≠ (TX2 b).2.1 := by decide +kernel
theorem tyX2_ok : ∀ k, k < 3 → parseFieldDescriptor (TX2 k).2.2.1 = some (tyX2 k) := by decide +kernel
abbrev cX2_init : ByteArray := prog_4_method_1_code
def yX2_init : MethodName := ⟨RX2, "<init>", "()V"⟩
abbrev cX2_copyFrom : ByteArray := prog_4_method_2_code
def yX2_copyFrom : MethodName := ⟨RX2, "copyFrom", "(LElidedLocks$Log;)V"⟩
abbrev cX2_add : ByteArray := prog_4_method_3_code
def yX2_add : MethodName := ⟨RX2, "add", "(IIII)V"⟩
abbrev cX2_cell : ByteArray := prog_4_method_4_code
def yX2_cell : MethodName := ⟨RX2, "cell", "(II)I"⟩
def RX3 : String := "ElidedLocks$Machine"
def TX3 : u_T := fun k => match k with
  | 0 => ("ElidedLocks$Machine", "words", "[I", true)
  | 1 => ("ElidedLocks$Machine", "told", "[I", true)
  | 2 => ("ElidedLocks$Machine", "terms", "[I", true)
  | 3 => ("ElidedLocks$Machine", "locks", "[LElidedLocks$Lock;", true)
  | 4 => ("ElidedLocks$Machine", "strands", "[LElidedLocks$Strand;", true)
  | 5 => ("ElidedLocks$Machine", "strandCount", "I", false)
  | 6 => ("ElidedLocks$Machine", "texts", "I", false)
  | 7 => ("ElidedLocks$Machine", "tick", "I", false)
  | 8 => ("ElidedLocks$Machine", "latest", "I", false)
  | 9 => ("ElidedLocks$Machine", "seed", "I", false)
  | 10 => ("ElidedLocks$Machine", "outThreads", "[I", true)
  | 11 => ("ElidedLocks$Machine", "outSums", "[I", true)
  | 12 => ("ElidedLocks$Machine", "outs", "I", false)
  | _ => ("ElidedLocks$Machine", "log", "LElidedLocks$Log;", true)
def tyX3 : Nat → FieldType := fun k => match k with
  | 0 => .array .int
  | 1 => .array .int
  | 2 => .array .int
  | 3 => .array (.object "ElidedLocks$Lock")
  | 4 => .array (.object "ElidedLocks$Strand")
  | 5 => .int
  | 6 => .int
  | 7 => .int
  | 8 => .int
  | 9 => .int
  | 10 => .array .int
  | 11 => .array .int
  | 12 => .int
  | _ => .object "ElidedLocks$Log"
abbrev wsX30 : List Cond := u_ws RX3 TX3 14
theorem nmX3 : ∀ a, a < 14 → ∀ b, b < 14 → a ≠ b → (TX3 a).2.1 ≠ (TX3 b).2.1 := by decide +kernel
theorem tyX3_ok : ∀ k, k < 14 → parseFieldDescriptor (TX3 k).2.2.1 = some (tyX3 k) := by decide +kernel
abbrev cX3_init : ByteArray := prog_5_method_1_code
def yX3_init : MethodName := ⟨RX3, "<init>", "()V"⟩
abbrev cX3_copyFrom : ByteArray := prog_5_method_2_code
def yX3_copyFrom : MethodName := ⟨RX3, "copyFrom", "(LElidedLocks$Machine;)V"⟩
abbrev cX3_strandAt : ByteArray := prog_5_method_3_code
def yX3_strandAt : MethodName := ⟨RX3, "strandAt", "(I)LElidedLocks$Strand;"⟩
abbrev cX3_lockAt : ByteArray := prog_5_method_4_code
def yX3_lockAt : MethodName := ⟨RX3, "lockAt", "(I)LElidedLocks$Lock;"⟩
abbrev cX3_blockBit : ByteArray := prog_5_method_5_code
def yX3_blockBit : MethodName := ⟨RX3, "blockBit", "(I)I"⟩
abbrev cX3_seenBy : ByteArray := prog_5_method_6_code
def yX3_seenBy : MethodName := ⟨RX3, "seenBy", "(LElidedLocks$Strand;I)I"⟩
abbrev cX3_isGuessing : ByteArray := prog_5_method_7_code
def yX3_isGuessing : MethodName := ⟨RX3, "isGuessing", "(I)Z"⟩
abbrev cX3_isDone : ByteArray := prog_5_method_8_code
def yX3_isDone : MethodName := ⟨RX3, "isDone", "(I)Z"⟩
abbrev cX3_nextByTurn : ByteArray := prog_5_method_9_code
def yX3_nextByTurn : MethodName := ⟨RX3, "nextByTurn", "()I"⟩
abbrev cX3_nextByDraw : ByteArray := prog_5_method_10_code
def yX3_nextByDraw : MethodName := ⟨RX3, "nextByDraw", "()I"⟩
abbrev cX3_draw : ByteArray := prog_5_method_11_code
def yX3_draw : MethodName := ⟨RX3, "draw", "(I)I"⟩
abbrev cX3_takeStep : ByteArray := prog_5_method_12_code
def yX3_takeStep : MethodName := ⟨RX3, "takeStep", "(I)I"⟩
abbrev cX3_moveOn : ByteArray := prog_5_method_13_code
def yX3_moveOn : MethodName := ⟨RX3, "moveOn", "(ILElidedLocks$Strand;)I"⟩
abbrev cX3_takePlainly : ByteArray := prog_5_method_14_code
def yX3_takePlainly : MethodName := ⟨RX3, "takePlainly", "(ILElidedLocks$Strand;I)I"⟩
abbrev cX3_takeGuessing : ByteArray := prog_5_method_15_code
def yX3_takeGuessing : MethodName := ⟨RX3, "takeGuessing", "(ILElidedLocks$Strand;I)I"⟩
abbrev cX3_dropLock : ByteArray := prog_5_method_16_code
def yX3_dropLock : MethodName := ⟨RX3, "dropLock", "(ILElidedLocks$Strand;I)I"⟩
abbrev cX3_keep : ByteArray := prog_5_method_17_code
def yX3_keep : MethodName := ⟨RX3, "keep", "(ILElidedLocks$Strand;I)V"⟩
abbrev cX3_getWord : ByteArray := prog_5_method_18_code
def yX3_getWord : MethodName := ⟨RX3, "getWord", "(ILElidedLocks$Strand;I)I"⟩
abbrev cX3_goOnWorking : ByteArray := prog_5_method_19_code
def yX3_goOnWorking : MethodName := ⟨RX3, "goOnWorking", "(LElidedLocks$Strand;I)I"⟩
abbrev cX3_putOut : ByteArray := prog_5_method_20_code
def yX3_putOut : MethodName := ⟨RX3, "putOut", "(ILElidedLocks$Strand;)I"⟩
abbrev cX3_reach : ByteArray := prog_5_method_21_code
def yX3_reach : MethodName := ⟨RX3, "reach", "(III)I"⟩
abbrev cX3_isFull : ByteArray := prog_5_method_22_code
def yX3_isFull : MethodName := ⟨RX3, "isFull", "(LElidedLocks$Guess;I)Z"⟩
abbrev cX3_holdersOf : ByteArray := prog_5_method_23_code
def yX3_holdersOf : MethodName := ⟨RX3, "holdersOf", "(IIZ)I"⟩
abbrev cX3_anyBefore : ByteArray := prog_5_method_24_code
def yX3_anyBefore : MethodName := ⟨RX3, "anyBefore", "(II)Z"⟩
abbrev cX3_fall : ByteArray := prog_5_method_25_code
def yX3_fall : MethodName := ⟨RX3, "fall", "(II)I"⟩
abbrev cX3_blocksOf : ByteArray := prog_5_method_26_code
def yX3_blocksOf : MethodName := ⟨RX3, "blocksOf", "(LElidedLocks$Strand;I)I"⟩
abbrev cX3_leavingOut : ByteArray := prog_5_method_27_code
def yX3_leavingOut : MethodName := ⟨RX3, "leavingOut", "(I)I"⟩
abbrev cX3_doneBits : ByteArray := prog_5_method_28_code
def yX3_doneBits : MethodName := ⟨RX3, "doneBits", "()I"⟩
abbrev cX3_guessingBits : ByteArray := prog_5_method_29_code
def yX3_guessingBits : MethodName := ⟨RX3, "guessingBits", "()I"⟩
abbrev cX3_lockBits : ByteArray := prog_5_method_30_code
def yX3_lockBits : MethodName := ⟨RX3, "lockBits", "()I"⟩
abbrev cX3_allKept : ByteArray := prog_5_method_31_code
def yX3_allKept : MethodName := ⟨RX3, "allKept", "()I"⟩
abbrev cX3_isWordOfOther : ByteArray := prog_5_method_32_code
def yX3_isWordOfOther : MethodName := ⟨RX3, "isWordOfOther", "(II)Z"⟩
def RX4 : String := "ElidedLocks$Orders"
def TX4 : u_T := fun k => match k with
  | 0 => ("ElidedLocks$Orders", "machine", "LElidedLocks$Machine;", true)
  | 1 => ("ElidedLocks$Orders", "words", "[I", true)
  | 2 => ("ElidedLocks$Orders", "saved", "[I", true)
  | 3 => ("ElidedLocks$Orders", "places", "[I", true)
  | 4 => ("ElidedLocks$Orders", "sums", "[I", true)
  | 5 => ("ElidedLocks$Orders", "order", "[I", true)
  | 6 => ("ElidedLocks$Orders", "outs", "I", false)
  | 7 => ("ElidedLocks$Orders", "parts", "I", false)
  | 8 => ("ElidedLocks$Orders", "known", "Z", false)
  | _ => ("ElidedLocks$Orders", "found", "Z", false)
def tyX4 : Nat → FieldType := fun k => match k with
  | 0 => .object "ElidedLocks$Machine"
  | 1 => .array .int
  | 2 => .array .int
  | 3 => .array .int
  | 4 => .array .int
  | 5 => .array .int
  | 6 => .int
  | 7 => .int
  | 8 => .boolean
  | _ => .boolean
abbrev wsX40 : List Cond := u_ws RX4 TX4 10
theorem nmX4 : ∀ a, a < 10 → ∀ b, b < 10 → a ≠ b → (TX4 a).2.1 ≠ (TX4 b).2.1 := by decide +kernel
theorem tyX4_ok : ∀ k, k < 10 → parseFieldDescriptor (TX4 k).2.2.1 = some (tyX4 k) := by decide +kernel
abbrev cX4_init : ByteArray := prog_6_method_1_code
def yX4_init : MethodName := ⟨RX4, "<init>", "(LElidedLocks$Machine;)V"⟩
abbrev cX4_forget : ByteArray := prog_6_method_2_code
def yX4_forget : MethodName := ⟨RX4, "forget", "()V"⟩
abbrev cX4_threadOf : ByteArray := prog_6_method_3_code
def yX4_threadOf : MethodName := ⟨RX4, "threadOf", "(I)I"⟩
abbrev cX4_search : ByteArray := prog_6_method_4_code
def yX4_search : MethodName := ⟨RX4, "search", "()V"⟩
abbrev cX4_placeFrom : ByteArray := prog_6_method_5_code
def yX4_placeFrom : MethodName := ⟨RX4, "placeFrom", "(I)Z"⟩
abbrev cX4_playPart : ByteArray := prog_6_method_6_code
def yX4_playPart : MethodName := ⟨RX4, "playPart", "(I)Z"⟩
abbrev cX4_playDeed : ByteArray := prog_6_method_7_code
def yX4_playDeed : MethodName := ⟨RX4, "playDeed", "(III)Z"⟩
abbrev cX4_playOutput : ByteArray := prog_6_method_8_code
def yX4_playOutput : MethodName := ⟨RX4, "playOutput", "(II)Z"⟩
abbrev cX4_cameOut : ByteArray := prog_6_method_9_code
def yX4_cameOut : MethodName := ⟨RX4, "cameOut", "()Z"⟩
def RX5 : String := "ElidedLocks$Reader"
def TX5 : u_T := fun k => match k with
  | 0 => ("ElidedLocks$Reader", "bytes", "[B", true)
  | 1 => ("ElidedLocks$Reader", "draft", "LElidedLocks$Machine;", true)
  | 2 => ("ElidedLocks$Reader", "length", "I", false)
  | 3 => ("ElidedLocks$Reader", "at", "I", false)
  | _ => ("ElidedLocks$Reader", "begin", "I", false)
def tyX5 : Nat → FieldType := fun k => match k with
  | 0 => .array .byte
  | 1 => .object "ElidedLocks$Machine"
  | 2 => .int
  | 3 => .int
  | _ => .int
abbrev wsX50 : List Cond := u_ws RX5 TX5 5
theorem nmX5 : ∀ a, a < 5 → ∀ b, b < 5 → a ≠ b → (TX5 a).2.1 ≠ (TX5 b).2.1 := by decide +kernel
theorem tyX5_ok : ∀ k, k < 5 → parseFieldDescriptor (TX5 k).2.2.1 = some (tyX5 k) := by decide +kernel
abbrev cX5_init : ByteArray := prog_7_method_1_code
def yX5_init : MethodName := ⟨RX5, "<init>", "([BLElidedLocks$Machine;)V"⟩
abbrev cX5_readAll : ByteArray := prog_7_method_2_code
def yX5_readAll : MethodName := ⟨RX5, "readAll", "(I)I"⟩
abbrev cX5_readLine : ByteArray := prog_7_method_3_code
def yX5_readLine : MethodName := ⟨RX5, "readLine", "()Z"⟩
abbrev cX5_readTerm : ByteArray := prog_7_method_4_code
def yX5_readTerm : MethodName := ⟨RX5, "readTerm", "(I)Z"⟩
abbrev cX5_readTrust : ByteArray := prog_7_method_5_code
def yX5_readTrust : MethodName := ⟨RX5, "readTrust", "()Z"⟩
abbrev cX5_readWord : ByteArray := prog_7_method_6_code
def yX5_readWord : MethodName := ⟨RX5, "readWord", "()Z"⟩
abbrev cX5_readLock : ByteArray := prog_7_method_7_code
def yX5_readLock : MethodName := ⟨RX5, "readLock", "()Z"⟩
abbrev cX5_readProgram : ByteArray := prog_7_method_8_code
def yX5_readProgram : MethodName := ⟨RX5, "readProgram", "()Z"⟩
abbrev cX5_readDeed : ByteArray := prog_7_method_9_code
def yX5_readDeed : MethodName := ⟨RX5, "readDeed", "(LElidedLocks$Strand;)Z"⟩
abbrev cX5_lookAhead : ByteArray := prog_7_method_10_code
def yX5_lookAhead : MethodName := ⟨RX5, "lookAhead", "()V"⟩
abbrev cX5_skipSign : ByteArray := prog_7_method_11_code
def yX5_skipSign : MethodName := ⟨RX5, "skipSign", "(C)Z"⟩
abbrev cX5_readName : ByteArray := prog_7_method_12_code
def yX5_readName : MethodName := ⟨RX5, "readName", "(Ljava/lang/String;)I"⟩
abbrev cX5_readNumber : ByteArray := prog_7_method_13_code
def yX5_readNumber : MethodName := ⟨RX5, "readNumber", "(II)I"⟩
def RX6 : String := "ElidedLocks$Strand"
def TX6 : u_T := fun k => match k with
  | 0 => ("ElidedLocks$Strand", "kinds", "[I", true)
  | 1 => ("ElidedLocks$Strand", "numbers", "[I", true)
  | 2 => ("ElidedLocks$Strand", "deeds", "I", false)
  | 3 => ("ElidedLocks$Strand", "at", "I", false)
  | 4 => ("ElidedLocks$Strand", "sum", "I", false)
  | 5 => ("ElidedLocks$Strand", "tried", "I", false)
  | 6 => ("ElidedLocks$Strand", "kept", "I", false)
  | 7 => ("ElidedLocks$Strand", "gone", "I", false)
  | 8 => ("ElidedLocks$Strand", "falls", "[I", true)
  | _ => ("ElidedLocks$Strand", "guess", "LElidedLocks$Guess;", true)
def tyX6 : Nat → FieldType := fun k => match k with
  | 0 => .array .int
  | 1 => .array .int
  | 2 => .int
  | 3 => .int
  | 4 => .int
  | 5 => .int
  | 6 => .int
  | 7 => .int
  | 8 => .array .int
  | _ => .object "ElidedLocks$Guess"
abbrev wsX60 : List Cond := u_ws RX6 TX6 10
theorem nmX6 : ∀ a, a < 10 → ∀ b, b < 10 → a ≠ b → (TX6 a).2.1 ≠ (TX6 b).2.1 := by decide +kernel
theorem tyX6_ok : ∀ k, k < 10 → parseFieldDescriptor (TX6 k).2.2.1 = some (tyX6 k) := by decide +kernel
abbrev cX6_init : ByteArray := prog_8_method_1_code
def yX6_init : MethodName := ⟨RX6, "<init>", "()V"⟩
abbrev cX6_copyFrom : ByteArray := prog_8_method_2_code
def yX6_copyFrom : MethodName := ⟨RX6, "copyFrom", "(LElidedLocks$Strand;)V"⟩
abbrev cX6_clear : ByteArray := prog_8_method_3_code
def yX6_clear : MethodName := ⟨RX6, "clear", "()V"⟩
abbrev cX6_addDeed : ByteArray := prog_8_method_4_code
def yX6_addDeed : MethodName := ⟨RX6, "addDeed", "(II)V"⟩
abbrev cX6_kindAt : ByteArray := prog_8_method_5_code
def yX6_kindAt : MethodName := ⟨RX6, "kindAt", "(I)I"⟩
abbrev cX6_numberAt : ByteArray := prog_8_method_6_code
def yX6_numberAt : MethodName := ⟨RX6, "numberAt", "(I)I"⟩
abbrev cX6_isDone : ByteArray := prog_8_method_7_code
def yX6_isDone : MethodName := ⟨RX6, "isDone", "()Z"⟩
abbrev cX6_allFalls : ByteArray := prog_8_method_8_code
def yX6_allFalls : MethodName := ⟨RX6, "allFalls", "()I"⟩
abbrev cX6_heldBehind : ByteArray := prog_8_method_9_code
def yX6_heldBehind : MethodName := ⟨RX6, "heldBehind", "(II)I"⟩
abbrev cX6_mostHeld : ByteArray := prog_8_method_10_code
def yX6_mostHeld : MethodName := ⟨RX6, "mostHeld", "()I"⟩
abbrev cX6_partEnd : ByteArray := prog_8_method_11_code
def yX6_partEnd : MethodName := ⟨RX6, "partEnd", "(I)I"⟩
abbrev cX6_partCount : ByteArray := prog_8_method_12_code
def yX6_partCount : MethodName := ⟨RX6, "partCount", "()I"⟩
def RX7 : String := "ElidedLocks$Writer"
def TX7 : u_T := fun k => match k with
  | 0 => ("ElidedLocks$Writer", "bytes", "[B", true)
  | _ => ("ElidedLocks$Writer", "length", "I", false)
def tyX7 : Nat → FieldType := fun k => match k with
  | 0 => .array .byte
  | _ => .int
abbrev wsX70 : List Cond := u_ws RX7 TX7 2
theorem nmX7 : ∀ a, a < 2 → ∀ b, b < 2 → a ≠ b → (TX7 a).2.1 ≠ (TX7 b).2.1 := by decide +kernel
theorem tyX7_ok : ∀ k, k < 2 → parseFieldDescriptor (TX7 k).2.2.1 = some (tyX7 k) := by decide +kernel
abbrev cX7_init : ByteArray := prog_9_method_1_code
def yX7_init : MethodName := ⟨RX7, "<init>", "()V"⟩
abbrev cX7_write : ByteArray := prog_9_method_2_code
def yX7_write : MethodName := ⟨RX7, "write", "(LElidedLocks$Strand;)I"⟩
abbrev cX7_byteAt : ByteArray := prog_9_method_3_code
def yX7_byteAt : MethodName := ⟨RX7, "byteAt", "(I)I"⟩
abbrev cX7_putByte : ByteArray := prog_9_method_4_code
def yX7_putByte : MethodName := ⟨RX7, "putByte", "(I)V"⟩
abbrev cX7_putName : ByteArray := prog_9_method_5_code
def yX7_putName : MethodName := ⟨RX7, "putName", "(Ljava/lang/String;I)V"⟩
abbrev cX7_putNumber : ByteArray := prog_9_method_6_code
def yX7_putNumber : MethodName := ⟨RX7, "putNumber", "(I)V"⟩
def RX8 : String := "ElidedLocks"
def TX8 : u_T := fun k => match k with
  | 0 => ("ElidedLocks", "now", "LElidedLocks$Machine;", true)
  | 1 => ("ElidedLocks", "aside", "LElidedLocks$Machine;", true)
  | 2 => ("ElidedLocks", "kept", "LElidedLocks$Machine;", true)
  | 3 => ("ElidedLocks", "isKept", "Z", false)
  | 4 => ("ElidedLocks", "tape", "[B", true)
  | 5 => ("ElidedLocks", "tapeLength", "I", false)
  | 6 => ("ElidedLocks", "firstWrong", "I", false)
  | 7 => ("ElidedLocks", "reader", "LElidedLocks$Reader;", true)
  | 8 => ("ElidedLocks", "writer", "LElidedLocks$Writer;", true)
  | _ => ("ElidedLocks", "orders", "LElidedLocks$Orders;", true)
def tyX8 : Nat → FieldType := fun k => match k with
  | 0 => .object "ElidedLocks$Machine"
  | 1 => .object "ElidedLocks$Machine"
  | 2 => .object "ElidedLocks$Machine"
  | 3 => .boolean
  | 4 => .array .byte
  | 5 => .int
  | 6 => .int
  | 7 => .object "ElidedLocks$Reader"
  | 8 => .object "ElidedLocks$Writer"
  | _ => .object "ElidedLocks$Orders"
abbrev wsX80 : List Cond := u_ws RX8 TX8 10
theorem nmX8 : ∀ a, a < 10 → ∀ b, b < 10 → a ≠ b → (TX8 a).2.1 ≠ (TX8 b).2.1 := by decide +kernel
theorem tyX8_ok : ∀ k, k < 10 → parseFieldDescriptor (TX8 k).2.2.1 = some (tyX8 k) := by decide +kernel
abbrev cX8_init : ByteArray := prog_1_method_1_code
def yX8_init : MethodName := ⟨RX8, "<init>", "()V"⟩
abbrev cX8_feed : ByteArray := prog_1_method_2_code
def yX8_feed : MethodName := ⟨RX8, "feed", "(IIIII)I"⟩
abbrev cX8_feedOne : ByteArray := prog_1_method_3_code
def yX8_feedOne : MethodName := ⟨RX8, "feedOne", "(I)V"⟩
abbrev cX8_end : ByteArray := prog_1_method_4_code
def yX8_end : MethodName := ⟨RX8, "end", "(I)Z"⟩
abbrev cX8_machine : ByteArray := prog_1_method_5_code
def yX8_machine : MethodName := ⟨RX8, "machine", "()I"⟩
abbrev cX8_fault : ByteArray := prog_1_method_6_code
def yX8_fault : MethodName := ⟨RX8, "fault", "()I"⟩
abbrev cX8_thread : ByteArray := prog_1_method_7_code
def yX8_thread : MethodName := ⟨RX8, "thread", "(II)I"⟩
abbrev cX8_leftOut : ByteArray := prog_1_method_8_code
def yX8_leftOut : MethodName := ⟨RX8, "leftOut", "(II)I"⟩
abbrev cX8_blocks : ByteArray := prog_1_method_9_code
def yX8_blocks : MethodName := ⟨RX8, "blocks", "(II)I"⟩
abbrev cX8_fell : ByteArray := prog_1_method_10_code
def yX8_fell : MethodName := ⟨RX8, "fell", "(II)I"⟩
abbrev cX8_word : ByteArray := prog_1_method_11_code
def yX8_word : MethodName := ⟨RX8, "word", "(I)I"⟩
abbrev cX8_sees : ByteArray := prog_1_method_12_code
def yX8_sees : MethodName := ⟨RX8, "sees", "(II)I"⟩
abbrev cX8_lock : ByteArray := prog_1_method_13_code
def yX8_lock : MethodName := ⟨RX8, "lock", "(II)I"⟩
abbrev cX8_term : ByteArray := prog_1_method_14_code
def yX8_term : MethodName := ⟨RX8, "term", "(I)I"⟩
abbrev cX8_deed : ByteArray := prog_1_method_15_code
def yX8_deed : MethodName := ⟨RX8, "deed", "(III)I"⟩
abbrev cX8_step : ByteArray := prog_1_method_16_code
def yX8_step : MethodName := ⟨RX8, "step", "(I)I"⟩
abbrev cX8_run : ByteArray := prog_1_method_17_code
def yX8_run : MethodName := ⟨RX8, "run", "(I)I"⟩
abbrev cX8_chance : ByteArray := prog_1_method_18_code
def yX8_chance : MethodName := ⟨RX8, "chance", "(I)I"⟩
abbrev cX8_goOn : ByteArray := prog_1_method_19_code
def yX8_goOn : MethodName := ⟨RX8, "goOn", "(IZ)I"⟩
abbrev cX8_poke : ByteArray := prog_1_method_20_code
def yX8_poke : MethodName := ⟨RX8, "poke", "(II)I"⟩
abbrev cX8_tune : ByteArray := prog_1_method_21_code
def yX8_tune : MethodName := ⟨RX8, "tune", "(II)I"⟩
abbrev cX8_seed : ByteArray := prog_1_method_22_code
def yX8_seed : MethodName := ⟨RX8, "seed", "(I)I"⟩
abbrev cX8_due : ByteArray := prog_1_method_23_code
def yX8_due : MethodName := ⟨RX8, "due", "(I)I"⟩
abbrev cX8_quickest : ByteArray := prog_1_method_24_code
def yX8_quickest : MethodName := ⟨RX8, "quickest", "(I)I"⟩
abbrev cX8_plain : ByteArray := prog_1_method_25_code
def yX8_plain : MethodName := ⟨RX8, "plain", "()I"⟩
abbrev cX8_ticksAhead : ByteArray := prog_1_method_26_code
def yX8_ticksAhead : MethodName := ⟨RX8, "ticksAhead", "(III)I"⟩
abbrev cX8_touches : ByteArray := prog_1_method_27_code
def yX8_touches : MethodName := ⟨RX8, "touches", "(II)I"⟩
abbrev cX8_rivals : ByteArray := prog_1_method_28_code
def yX8_rivals : MethodName := ⟨RX8, "rivals", "(II)I"⟩
abbrev cX8_nest : ByteArray := prog_1_method_29_code
def yX8_nest : MethodName := ⟨RX8, "nest", "(I)I"⟩
abbrev cX8_parts : ByteArray := prog_1_method_30_code
def yX8_parts : MethodName := ⟨RX8, "parts", "(I)I"⟩
abbrev cX8_serial : ByteArray := prog_1_method_31_code
def yX8_serial : MethodName := ⟨RX8, "serial", "(I)I"⟩
abbrev cX8_output : ByteArray := prog_1_method_32_code
def yX8_output : MethodName := ⟨RX8, "output", "(II)I"⟩
abbrev cX8_log : ByteArray := prog_1_method_33_code
def yX8_log : MethodName := ⟨RX8, "log", "(II)I"⟩
abbrev cX8_text : ByteArray := prog_1_method_34_code
def yX8_text : MethodName := ⟨RX8, "text", "(I)I"⟩
abbrev cX8_octet : ByteArray := prog_1_method_35_code
def yX8_octet : MethodName := ⟨RX8, "octet", "(I)I"⟩
abbrev cX8_image : ByteArray := prog_1_method_36_code
def yX8_image : MethodName := ⟨RX8, "image", "()V"⟩
abbrev cX8_back : ByteArray := prog_1_method_37_code
def yX8_back : MethodName := ⟨RX8, "back", "()Z"⟩
abbrev cX8_count : ByteArray := prog_1_method_38_code
def yX8_count : MethodName := ⟨RX8, "count", "(I)I"⟩
abbrev cX8_strandOf : ByteArray := prog_1_method_39_code
def yX8_strandOf : MethodName := ⟨RX8, "strandOf", "(I)LElidedLocks$Strand;"⟩
abbrev cX8_wordOf : ByteArray := prog_1_method_40_code
def yX8_wordOf : MethodName := ⟨RX8, "wordOf", "(I)I"⟩
abbrev cX8_whatOfTwo : ByteArray := prog_1_method_41_code
def yX8_whatOfTwo : MethodName := ⟨RX8, "whatOfTwo", "(I)I"⟩
abbrev cX8_ticksOf : ByteArray := prog_1_method_42_code
def yX8_ticksOf : MethodName := ⟨RX8, "ticksOf", "(I)I"⟩
def RX9 : String := "ElidedLocksModel"
def TX9 : u_T := fun k => match k with
  | 0 => ("ElidedLocksModel", "thrown", "I", false)
  | 1 => ("ElidedLocksModel", "world", "[I", true)
  | 2 => ("ElidedLocksModel", "image", "[I", true)
  | 3 => ("ElidedLocksModel", "aside", "[I", true)
  | 4 => ("ElidedLocksModel", "hasImage", "Z", false)
  | 5 => ("ElidedLocksModel", "hasFallen", "Z", false)
  | 6 => ("ElidedLocksModel", "tape", "[B", true)
  | 7 => ("ElidedLocksModel", "taped", "I", false)
  | 8 => ("ElidedLocksModel", "point", "I", false)
  | 9 => ("ElidedLocksModel", "end", "I", false)
  | 10 => ("ElidedLocksModel", "begin", "I", false)
  | 11 => ("ElidedLocksModel", "faultAt", "I", false)
  | 12 => ("ElidedLocksModel", "five", "[I", true)
  | 13 => ("ElidedLocksModel", "whole", "[I", true)
  | 14 => ("ElidedLocksModel", "chosen", "[I", true)
  | 15 => ("ElidedLocksModel", "written", "[B", true)
  | _ => ("ElidedLocksModel", "writtenMany", "I", false)
def tyX9 : Nat → FieldType := fun k => match k with
  | 0 => .int
  | 1 => .array .int
  | 2 => .array .int
  | 3 => .array .int
  | 4 => .boolean
  | 5 => .boolean
  | 6 => .array .byte
  | 7 => .int
  | 8 => .int
  | 9 => .int
  | 10 => .int
  | 11 => .int
  | 12 => .array .int
  | 13 => .array .int
  | 14 => .array .int
  | 15 => .array .byte
  | _ => .int
abbrev wsX90 : List Cond := u_ws RX9 TX9 17
theorem nmX9 : ∀ a, a < 17 → ∀ b, b < 17 → a ≠ b → (TX9 a).2.1 ≠ (TX9 b).2.1 := by decide +kernel
theorem tyX9_ok : ∀ k, k < 17 → parseFieldDescriptor (TX9 k).2.2.1 = some (tyX9 k) := by decide +kernel
abbrev cX9_thrown : ByteArray := prog_11_method_1_code
def yX9_thrown : MethodName := ⟨RX9, "thrown", "()I"⟩
abbrev cX9_throwsIf : ByteArray := prog_11_method_2_code
def yX9_throwsIf : MethodName := ⟨RX9, "throwsIf", "(ZI)Z"⟩
abbrev cX9_in : ByteArray := prog_11_method_3_code
def yX9_in : MethodName := ⟨RX9, "in", "(III)Z"⟩
abbrev cX9_holds : ByteArray := prog_11_method_4_code
def yX9_holds : MethodName := ⟨RX9, "holds", "(II)Z"⟩
abbrev cX9_bits : ByteArray := prog_11_method_5_code
def yX9_bits : MethodName := ⟨RX9, "bits", "(I)I"⟩
abbrev cX9_init : ByteArray := prog_11_method_6_code
def yX9_init : MethodName := ⟨RX9, "<init>", "()V"⟩
abbrev cX9_copies : ByteArray := prog_11_method_7_code
def yX9_copies : MethodName := ⟨RX9, "copies", "([I[I)V"⟩
abbrev cX9_image : ByteArray := prog_11_method_8_code
def yX9_image : MethodName := ⟨RX9, "image", "()V"⟩
abbrev cX9_back : ByteArray := prog_11_method_9_code
def yX9_back : MethodName := ⟨RX9, "back", "()Z"⟩
abbrev cX9_threads : ByteArray := prog_11_method_10_code
def yX9_threads : MethodName := ⟨RX9, "threads", "()I"⟩
abbrev cX9_at : ByteArray := prog_11_method_11_code
def yX9_at : MethodName := ⟨RX9, "at", "(II)I"⟩
abbrev cX9_of : ByteArray := prog_11_method_12_code
def yX9_of : MethodName := ⟨RX9, "of", "(II)I"⟩
abbrev cX9_isDone : ByteArray := prog_11_method_13_code
def yX9_isDone : MethodName := ⟨RX9, "isDone", "(I)Z"⟩
abbrev cX9_deedOf : ByteArray := prog_11_method_14_code
def yX9_deedOf : MethodName := ⟨RX9, "deedOf", "(III)I"⟩
abbrev cX9_blockOf : ByteArray := prog_11_method_15_code
def yX9_blockOf : MethodName := ⟨RX9, "blockOf", "(I)I"⟩
abbrev cX9_logs : ByteArray := prog_11_method_16_code
def yX9_logs : MethodName := ⟨RX9, "logs", "(III)V"⟩
abbrev cX9_ends : ByteArray := prog_11_method_17_code
def yX9_ends : MethodName := ⟨RX9, "ends", "(I)V"⟩
abbrev cX9_falls : ByteArray := prog_11_method_18_code
def yX9_falls : MethodName := ⟨RX9, "falls", "(II)V"⟩
abbrev cX9_itFalls : ByteArray := prog_11_method_19_code
def yX9_itFalls : MethodName := ⟨RX9, "itFalls", "(II)V"⟩
abbrev cX9_clashing : ByteArray := prog_11_method_20_code
def yX9_clashing : MethodName := ⟨RX9, "clashing", "(IIZ)I"⟩
abbrev cX9_yields : ByteArray := prog_11_method_21_code
def yX9_yields : MethodName := ⟨RX9, "yields", "(II)Z"⟩
abbrev cX9_clears : ByteArray := prog_11_method_22_code
def yX9_clears : MethodName := ⟨RX9, "clears", "(II)Z"⟩
abbrev cX9_seen : ByteArray := prog_11_method_23_code
def yX9_seen : MethodName := ⟨RX9, "seen", "(II)I"⟩
abbrev cX9_reads : ByteArray := prog_11_method_24_code
def yX9_reads : MethodName := ⟨RX9, "reads", "(II)Z"⟩
abbrev cX9_writes : ByteArray := prog_11_method_25_code
def yX9_writes : MethodName := ⟨RX9, "writes", "(III)Z"⟩
abbrev cX9_placeLeft : ByteArray := prog_11_method_26_code
def yX9_placeLeft : MethodName := ⟨RX9, "placeLeft", "(II)I"⟩
abbrev cX9_leavesOut : ByteArray := prog_11_method_27_code
def yX9_leavesOut : MethodName := ⟨RX9, "leavesOut", "(II)V"⟩
abbrev cX9_beginsGuess : ByteArray := prog_11_method_28_code
def yX9_beginsGuess : MethodName := ⟨RX9, "beginsGuess", "(II)V"⟩
abbrev cX9_isTaken : ByteArray := prog_11_method_29_code
def yX9_isTaken : MethodName := ⟨RX9, "isTaken", "(II)V"⟩
abbrev cX9_takes : ByteArray := prog_11_method_30_code
def yX9_takes : MethodName := ⟨RX9, "takes", "(II)Z"⟩
abbrev cX9_isKept : ByteArray := prog_11_method_31_code
def yX9_isKept : MethodName := ⟨RX9, "isKept", "(II)V"⟩
abbrev cX9_drops : ByteArray := prog_11_method_32_code
def yX9_drops : MethodName := ⟨RX9, "drops", "(II)Z"⟩
abbrev cX9_works : ByteArray := prog_11_method_33_code
def yX9_works : MethodName := ⟨RX9, "works", "(II)Z"⟩
abbrev cX9_putsOut : ByteArray := prog_11_method_34_code
def yX9_putsOut : MethodName := ⟨RX9, "putsOut", "(I)Z"⟩
abbrev cX9_does : ByteArray := prog_11_method_35_code
def yX9_does : MethodName := ⟨RX9, "does", "(III)Z"⟩
abbrev cX9_steps : ByteArray := prog_11_method_36_code
def yX9_steps : MethodName := ⟨RX9, "steps", "(I)I"⟩
abbrev cX9_doneOnes : ByteArray := prog_11_method_37_code
def yX9_doneOnes : MethodName := ⟨RX9, "doneOnes", "()I"⟩
abbrev cX9_areAllDone : ByteArray := prog_11_method_38_code
def yX9_areAllDone : MethodName := ⟨RX9, "areAllDone", "()Z"⟩
abbrev cX9_nextOne : ByteArray := prog_11_method_39_code
def yX9_nextOne : MethodName := ⟨RX9, "nextOne", "()I"⟩
abbrev cX9_drawOf : ByteArray := prog_11_method_40_code
def yX9_drawOf : MethodName := ⟨RX9, "drawOf", "(I)I"⟩
abbrev cX9_drawnOne : ByteArray := prog_11_method_41_code
def yX9_drawnOne : MethodName := ⟨RX9, "drawnOne", "()I"⟩
abbrev cX9_feed : ByteArray := prog_11_method_42_code
def yX9_feed : MethodName := ⟨RX9, "feed", "(IIIII)I"⟩
abbrev cX9_end : ByteArray := prog_11_method_43_code
def yX9_end : MethodName := ⟨RX9, "end", "(I)Z"⟩
abbrev cX9_fault : ByteArray := prog_11_method_44_code
def yX9_fault : MethodName := ⟨RX9, "fault", "()I"⟩
abbrev cX9_isAt : ByteArray := prog_11_method_45_code
def yX9_isAt : MethodName := ⟨RX9, "isAt", "(II)Z"⟩
abbrev cX9_blanks : ByteArray := prog_11_method_46_code
def yX9_blanks : MethodName := ⟨RX9, "blanks", "()V"⟩
abbrev cX9_letters : ByteArray := prog_11_method_47_code
def yX9_letters : MethodName := ⟨RX9, "letters", "()V"⟩
abbrev cX9_isWord : ByteArray := prog_11_method_48_code
def yX9_isWord : MethodName := ⟨RX9, "isWord", "(Ljava/lang/String;)Z"⟩
abbrev cX9_passesSign : ByteArray := prog_11_method_49_code
def yX9_passesSign : MethodName := ⟨RX9, "passesSign", "(I)Z"⟩
abbrev cX9_number : ByteArray := prog_11_method_50_code
def yX9_number : MethodName := ⟨RX9, "number", "(II)I"⟩
abbrev cX9_readTo : ByteArray := prog_11_method_51_code
def yX9_readTo : MethodName := ⟨RX9, "readTo", "(III)Z"⟩
abbrev cX9_kindHere : ByteArray := prog_11_method_52_code
def yX9_kindHere : MethodName := ⟨RX9, "kindHere", "()I"⟩
abbrev cX9_readDeed : ByteArray := prog_11_method_53_code
def yX9_readDeed : MethodName := ⟨RX9, "readDeed", "(I)Z"⟩
abbrev cX9_readThread : ByteArray := prog_11_method_54_code
def yX9_readThread : MethodName := ⟨RX9, "readThread", "()Z"⟩
abbrev cX9_readWordLine : ByteArray := prog_11_method_55_code
def yX9_readWordLine : MethodName := ⟨RX9, "readWordLine", "()Z"⟩
abbrev cX9_readLock : ByteArray := prog_11_method_56_code
def yX9_readLock : MethodName := ⟨RX9, "readLock", "()Z"⟩
abbrev cX9_readTrust : ByteArray := prog_11_method_57_code
def yX9_readTrust : MethodName := ⟨RX9, "readTrust", "()Z"⟩
abbrev cX9_leastOf : ByteArray := prog_11_method_58_code
def yX9_leastOf : MethodName := ⟨RX9, "leastOf", "(I)I"⟩
abbrev cX9_mostOf : ByteArray := prog_11_method_59_code
def yX9_mostOf : MethodName := ⟨RX9, "mostOf", "(I)I"⟩
abbrev cX9_termHere : ByteArray := prog_11_method_60_code
def yX9_termHere : MethodName := ⟨RX9, "termHere", "()I"⟩
abbrev cX9_readLine : ByteArray := prog_11_method_61_code
def yX9_readLine : MethodName := ⟨RX9, "readLine", "()Z"⟩
abbrev cX9_readText : ByteArray := prog_11_method_62_code
def yX9_readText : MethodName := ⟨RX9, "readText", "()Z"⟩
abbrev cX9_machine : ByteArray := prog_11_method_63_code
def yX9_machine : MethodName := ⟨RX9, "machine", "()I"⟩
abbrev cX9_noThread : ByteArray := prog_11_method_64_code
def yX9_noThread : MethodName := ⟨RX9, "noThread", "(I)Z"⟩
abbrev cX9_step : ByteArray := prog_11_method_65_code
def yX9_step : MethodName := ⟨RX9, "step", "(I)I"⟩
abbrev cX9_goes : ByteArray := prog_11_method_66_code
def yX9_goes : MethodName := ⟨RX9, "goes", "(IZ)I"⟩
abbrev cX9_run : ByteArray := prog_11_method_67_code
def yX9_run : MethodName := ⟨RX9, "run", "(I)I"⟩
abbrev cX9_chance : ByteArray := prog_11_method_68_code
def yX9_chance : MethodName := ⟨RX9, "chance", "(I)I"⟩
abbrev cX9_poke : ByteArray := prog_11_method_69_code
def yX9_poke : MethodName := ⟨RX9, "poke", "(II)I"⟩
abbrev cX9_tune : ByteArray := prog_11_method_70_code
def yX9_tune : MethodName := ⟨RX9, "tune", "(II)I"⟩
abbrev cX9_seed : ByteArray := prog_11_method_71_code
def yX9_seed : MethodName := ⟨RX9, "seed", "(I)I"⟩
abbrev cX9_fellOf : ByteArray := prog_11_method_72_code
def yX9_fellOf : MethodName := ⟨RX9, "fellOf", "(I)I"⟩
abbrev cX9_thread : ByteArray := prog_11_method_73_code
def yX9_thread : MethodName := ⟨RX9, "thread", "(II)I"⟩
abbrev cX9_leftOut : ByteArray := prog_11_method_74_code
def yX9_leftOut : MethodName := ⟨RX9, "leftOut", "(II)I"⟩
abbrev cX9_blocks : ByteArray := prog_11_method_75_code
def yX9_blocks : MethodName := ⟨RX9, "blocks", "(II)I"⟩
abbrev cX9_fell : ByteArray := prog_11_method_76_code
def yX9_fell : MethodName := ⟨RX9, "fell", "(II)I"⟩
abbrev cX9_noWord : ByteArray := prog_11_method_77_code
def yX9_noWord : MethodName := ⟨RX9, "noWord", "(I)Z"⟩
abbrev cX9_word : ByteArray := prog_11_method_78_code
def yX9_word : MethodName := ⟨RX9, "word", "(I)I"⟩
abbrev cX9_sees : ByteArray := prog_11_method_79_code
def yX9_sees : MethodName := ⟨RX9, "sees", "(II)I"⟩
abbrev cX9_leavers : ByteArray := prog_11_method_80_code
def yX9_leavers : MethodName := ⟨RX9, "leavers", "(I)I"⟩
abbrev cX9_lock : ByteArray := prog_11_method_81_code
def yX9_lock : MethodName := ⟨RX9, "lock", "(II)I"⟩
abbrev cX9_term : ByteArray := prog_11_method_82_code
def yX9_term : MethodName := ⟨RX9, "term", "(I)I"⟩
abbrev cX9_deed : ByteArray := prog_11_method_83_code
def yX9_deed : MethodName := ⟨RX9, "deed", "(III)I"⟩
abbrev cX9_output : ByteArray := prog_11_method_84_code
def yX9_output : MethodName := ⟨RX9, "output", "(II)I"⟩
abbrev cX9_log : ByteArray := prog_11_method_85_code
def yX9_log : MethodName := ⟨RX9, "log", "(II)I"⟩
abbrev cX9_guessing : ByteArray := prog_11_method_86_code
def yX9_guessing : MethodName := ⟨RX9, "guessing", "()I"⟩
abbrev cX9_keptAll : ByteArray := prog_11_method_87_code
def yX9_keptAll : MethodName := ⟨RX9, "keptAll", "()I"⟩
abbrev cX9_heldLocks : ByteArray := prog_11_method_88_code
def yX9_heldLocks : MethodName := ⟨RX9, "heldLocks", "()I"⟩
abbrev cX9_count : ByteArray := prog_11_method_89_code
def yX9_count : MethodName := ⟨RX9, "count", "(I)I"⟩
abbrev cX9_dueOf : ByteArray := prog_11_method_90_code
def yX9_dueOf : MethodName := ⟨RX9, "dueOf", "(I)I"⟩
abbrev cX9_due : ByteArray := prog_11_method_91_code
def yX9_due : MethodName := ⟨RX9, "due", "(I)I"⟩
abbrev cX9_dueBy : ByteArray := prog_11_method_92_code
def yX9_dueBy : MethodName := ⟨RX9, "dueBy", "(I)I"⟩
abbrev cX9_quickest : ByteArray := prog_11_method_93_code
def yX9_quickest : MethodName := ⟨RX9, "quickest", "(I)I"⟩
abbrev cX9_plain : ByteArray := prog_11_method_94_code
def yX9_plain : MethodName := ⟨RX9, "plain", "()I"⟩
abbrev cX9_touched : ByteArray := prog_11_method_95_code
def yX9_touched : MethodName := ⟨RX9, "touched", "(IZZZ)I"⟩
abbrev cX9_touches : ByteArray := prog_11_method_96_code
def yX9_touches : MethodName := ⟨RX9, "touches", "(II)I"⟩
abbrev cX9_rivals : ByteArray := prog_11_method_97_code
def yX9_rivals : MethodName := ⟨RX9, "rivals", "(II)I"⟩
abbrev cX9_heldBehind : ByteArray := prog_11_method_98_code
def yX9_heldBehind : MethodName := ⟨RX9, "heldBehind", "(III)I"⟩
abbrev cX9_nest : ByteArray := prog_11_method_99_code
def yX9_nest : MethodName := ⟨RX9, "nest", "(I)I"⟩
abbrev cX9_behindPart : ByteArray := prog_11_method_100_code
def yX9_behindPart : MethodName := ⟨RX9, "behindPart", "(II)I"⟩
abbrev cX9_partsOf : ByteArray := prog_11_method_101_code
def yX9_partsOf : MethodName := ⟨RX9, "partsOf", "(I)I"⟩
abbrev cX9_parts : ByteArray := prog_11_method_102_code
def yX9_parts : MethodName := ⟨RX9, "parts", "(I)I"⟩
abbrev cX9_doesDeed : ByteArray := prog_11_method_103_code
def yX9_doesDeed : MethodName := ⟨RX9, "doesDeed", "(IIII)Z"⟩
abbrev cX9_putsWhole : ByteArray := prog_11_method_104_code
def yX9_putsWhole : MethodName := ⟨RX9, "putsWhole", "(II)V"⟩
abbrev cX9_isAsNow : ByteArray := prog_11_method_105_code
def yX9_isAsNow : MethodName := ⟨RX9, "isAsNow", "(I)Z"⟩
abbrev cX9_orders : ByteArray := prog_11_method_106_code
def yX9_orders : MethodName := ⟨RX9, "orders", "(II)Z"⟩
abbrev cX9_serial : ByteArray := prog_11_method_107_code
def yX9_serial : MethodName := ⟨RX9, "serial", "(I)I"⟩
abbrev cX9_prints : ByteArray := prog_11_method_108_code
def yX9_prints : MethodName := ⟨RX9, "prints", "(Ljava/lang/String;)V"⟩
abbrev cX9_printsNumber : ByteArray := prog_11_method_109_code
def yX9_printsNumber : MethodName := ⟨RX9, "printsNumber", "(I)V"⟩
abbrev cX9_printsDeed : ByteArray := prog_11_method_110_code
def yX9_printsDeed : MethodName := ⟨RX9, "printsDeed", "(II)V"⟩
abbrev cX9_text : ByteArray := prog_11_method_111_code
def yX9_text : MethodName := ⟨RX9, "text", "(I)I"⟩
abbrev cX9_octet : ByteArray := prog_11_method_112_code
def yX9_octet : MethodName := ⟨RX9, "octet", "(I)I"⟩
def RJx145de : String := "java/io/Serializable"
def TJx145de : u_T := fun k => match k with
  | _ => ("", "", "", false)
def tyJx145de : Nat → FieldType := fun k => match k with
  | _ => .int
abbrev wsJx145de0 : List Cond := u_ws RJx145de TJx145de 0
theorem nmJx145de : ∀ a, a < 0 → ∀ b, b < 0 → a ≠ b → (TJx145de a).2.1 ≠ (TJx145de b).2.1 := by decide +kernel
theorem tyJx145de_ok : ∀ k, k < 0 → parseFieldDescriptor (TJx145de k).2.2.1 = some (tyJx145de k) := by decide +kernel
def RJx9f9b0 : String := "java/lang/CharSequence"
def TJx9f9b0 : u_T := fun k => match k with
  | _ => ("", "", "", false)
def tyJx9f9b0 : Nat → FieldType := fun k => match k with
  | _ => .int
abbrev wsJx9f9b00 : List Cond := u_ws RJx9f9b0 TJx9f9b0 0
theorem nmJx9f9b0 : ∀ a, a < 0 → ∀ b, b < 0 → a ≠ b → (TJx9f9b0 a).2.1 ≠ (TJx9f9b0 b).2.1 := by decide +kernel
theorem tyJx9f9b0_ok : ∀ k, k < 0 → parseFieldDescriptor (TJx9f9b0 k).2.2.1 = some (tyJx9f9b0 k) := by decide +kernel
def RJxb160c : String := "java/lang/Comparable"
def TJxb160c : u_T := fun k => match k with
  | _ => ("", "", "", false)
def tyJxb160c : Nat → FieldType := fun k => match k with
  | _ => .int
abbrev wsJxb160c0 : List Cond := u_ws RJxb160c TJxb160c 0
theorem nmJxb160c : ∀ a, a < 0 → ∀ b, b < 0 → a ≠ b → (TJxb160c a).2.1 ≠ (TJxb160c b).2.1 := by decide +kernel
theorem tyJxb160c_ok : ∀ k, k < 0 → parseFieldDescriptor (TJxb160c k).2.2.1 = some (tyJxb160c k) := by decide +kernel
def RJ6 : String := "java/lang/Integer"
def TJ6 : u_T := fun k => match k with
  | _ => ("", "", "", false)
def tyJ6 : Nat → FieldType := fun k => match k with
  | _ => .int
abbrev wsJ60 : List Cond := u_ws RJ6 TJ6 0
theorem nmJ6 : ∀ a, a < 0 → ∀ b, b < 0 → a ≠ b → (TJ6 a).2.1 ≠ (TJ6 b).2.1 := by decide +kernel
theorem tyJ6_ok : ∀ k, k < 0 → parseFieldDescriptor (TJ6 k).2.2.1 = some (tyJ6 k) := by decide +kernel
abbrev cJ6_bitCount_0f7a4 : ByteArray := prog_19_method_49_code
def yJ6_bitCount_0f7a4 : MethodName := ⟨RJ6, "bitCount", "(I)I"⟩
def RJ9 : String := "java/lang/Math"
def TJ9 : u_T := fun k => match k with
  | _ => ("", "", "", false)
def tyJ9 : Nat → FieldType := fun k => match k with
  | _ => .int
abbrev wsJ90 : List Cond := u_ws RJ9 TJ9 0
theorem nmJ9 : ∀ a, a < 0 → ∀ b, b < 0 → a ≠ b → (TJ9 a).2.1 ≠ (TJ9 b).2.1 := by decide +kernel
theorem tyJ9_ok : ∀ k, k < 0 → parseFieldDescriptor (TJ9 k).2.2.1 = some (tyJ9 k) := by decide +kernel
abbrev cJ9_floorMod_7cf53 : ByteArray := prog_20_method_50_code
def yJ9_floorMod_7cf53 : MethodName := ⟨RJ9, "floorMod", "(II)I"⟩
abbrev cJ9_max_7cf53 : ByteArray := prog_20_method_65_code
def yJ9_max_7cf53 : MethodName := ⟨RJ9, "max", "(II)I"⟩
abbrev cJ9_min_7cf53 : ByteArray := prog_20_method_69_code
def yJ9_min_7cf53 : MethodName := ⟨RJ9, "min", "(II)I"⟩
def RJ0 : String := "java/lang/String"
def TJ0 : u_T := fun k => match k with
  | _ => ("", "", "", false)
def tyJ0 : Nat → FieldType := fun k => match k with
  | _ => .int
abbrev wsJ00 : List Cond := u_ws RJ0 TJ0 0
theorem nmJ0 : ∀ a, a < 0 → ∀ b, b < 0 → a ≠ b → (TJ0 a).2.1 ≠ (TJ0 b).2.1 := by decide +kernel
theorem tyJ0_ok : ∀ k, k < 0 → parseFieldDescriptor (TJ0 k).2.2.1 = some (tyJ0 k) := by decide +kernel
abbrev cJ0_length_8abf5 : ByteArray := prog_22_method_54_code
def yJ0_length_8abf5 : MethodName := ⟨RJ0, "length", "()I"⟩
abbrev cJ0_charAt_5068e : ByteArray := prog_22_method_56_code
def yJ0_charAt_5068e : MethodName := ⟨RJ0, "charAt", "(I)C"⟩
abbrev cJ0_coder_7d493 : ByteArray := prog_22_method_152_code
def yJ0_coder_7d493 : MethodName := ⟨RJ0, "coder", "()B"⟩
abbrev cJ0_isLatin1_aae02 : ByteArray := prog_22_method_154_code
def yJ0_isLatin1_aae02 : MethodName := ⟨RJ0, "isLatin1", "()Z"⟩
abbrev cJ0_checkIndex_df160 : ByteArray := prog_22_method_155_code
def yJ0_checkIndex_df160 : MethodName := ⟨RJ0, "checkIndex", "(II)V"⟩
def RJ1 : String := "java/lang/StringLatin1"
def TJ1 : u_T := fun k => match k with
  | _ => ("", "", "", false)
def tyJ1 : Nat → FieldType := fun k => match k with
  | _ => .int
abbrev wsJ10 : List Cond := u_ws RJ1 TJ1 0
theorem nmJ1 : ∀ a, a < 0 → ∀ b, b < 0 → a ≠ b → (TJ1 a).2.1 ≠ (TJ1 b).2.1 := by decide +kernel
theorem tyJ1_ok : ∀ k, k < 0 → parseFieldDescriptor (TJ1 k).2.2.1 = some (tyJ1 k) := by decide +kernel
abbrev cJ1_charAt_3b067 : ByteArray := prog_23_method_2_code
def yJ1_charAt_3b067 : MethodName := ⟨RJ1, "charAt", "([BI)C"⟩
def RJ2 : String := "java/lang/StringUTF16"
def TJ2 : u_T := fun k => match k with
  | _ => ("", "", "", false)
def tyJ2 : Nat → FieldType := fun k => match k with
  | _ => .int
abbrev wsJ20 : List Cond := u_ws RJ2 TJ2 0
theorem nmJ2 : ∀ a, a < 0 → ∀ b, b < 0 → a ≠ b → (TJ2 a).2.1 ≠ (TJ2 b).2.1 := by decide +kernel
theorem tyJ2_ok : ∀ k, k < 0 → parseFieldDescriptor (TJ2 k).2.2.1 = some (tyJ2 k) := by decide +kernel
abbrev cJ2_getChar_3b067 : ByteArray := prog_24_method_5_code
def yJ2_getChar_3b067 : MethodName := ⟨RJ2, "getChar", "([BI)C"⟩
abbrev cJ2_length_9d52b : ByteArray := prog_24_method_6_code
def yJ2_length_9d52b : MethodName := ⟨RJ2, "length", "([B)I"⟩
abbrev cJ2_charAt_3b067 : ByteArray := prog_24_method_83_code
def yJ2_charAt_3b067 : MethodName := ⟨RJ2, "charAt", "([BI)C"⟩
abbrev cJ2_checkIndex_2214a : ByteArray := prog_24_method_91_code
def yJ2_checkIndex_2214a : MethodName := ⟨RJ2, "checkIndex", "(I[B)V"⟩
def RJ10 : String := "java/lang/System"
def TJ10 : u_T := fun k => match k with
  | _ => ("", "", "", false)
def tyJ10 : Nat → FieldType := fun k => match k with
  | _ => .int
abbrev wsJ100 : List Cond := u_ws RJ10 TJ10 0
theorem nmJ10 : ∀ a, a < 0 → ∀ b, b < 0 → a ≠ b → (TJ10 a).2.1 ≠ (TJ10 b).2.1 := by decide +kernel
theorem tyJ10_ok : ∀ k, k < 0 → parseFieldDescriptor (TJ10 k).2.2.1 = some (tyJ10 k) := by decide +kernel
def RJxfd54e : String := "java/lang/constant/Constable"
def TJxfd54e : u_T := fun k => match k with
  | _ => ("", "", "", false)
def tyJxfd54e : Nat → FieldType := fun k => match k with
  | _ => .int
abbrev wsJxfd54e0 : List Cond := u_ws RJxfd54e TJxfd54e 0
theorem nmJxfd54e : ∀ a, a < 0 → ∀ b, b < 0 → a ≠ b → (TJxfd54e a).2.1 ≠ (TJxfd54e b).2.1 := by decide +kernel
theorem tyJxfd54e_ok : ∀ k, k < 0 → parseFieldDescriptor (TJxfd54e k).2.2.1 = some (tyJxfd54e k) := by decide +kernel
def RJx3cf43 : String := "java/lang/constant/ConstantDesc"
def TJx3cf43 : u_T := fun k => match k with
  | _ => ("", "", "", false)
def tyJx3cf43 : Nat → FieldType := fun k => match k with
  | _ => .int
abbrev wsJx3cf430 : List Cond := u_ws RJx3cf43 TJx3cf43 0
theorem nmJx3cf43 : ∀ a, a < 0 → ∀ b, b < 0 → a ≠ b → (TJx3cf43 a).2.1 ≠ (TJx3cf43 b).2.1 := by decide +kernel
theorem tyJx3cf43_ok : ∀ k, k < 0 → parseFieldDescriptor (TJx3cf43 k).2.2.1 = some (tyJx3cf43 k) := by decide +kernel
def RJ3 : String := "jdk/internal/util/Preconditions"
def TJ3 : u_T := fun k => match k with
  | _ => ("", "", "", false)
def tyJ3 : Nat → FieldType := fun k => match k with
  | _ => .int
abbrev wsJ30 : List Cond := u_ws RJ3 TJ3 0
theorem nmJ3 : ∀ a, a < 0 → ∀ b, b < 0 → a ≠ b → (TJ3 a).2.1 ≠ (TJ3 b).2.1 := by decide +kernel
theorem tyJ3_ok : ∀ k, k < 0 → parseFieldDescriptor (TJ3 k).2.2.1 = some (tyJ3 k) := by decide +kernel
abbrev cJ3_checkIndex_8e157 : ByteArray := prog_31_method_11_code
def yJ3_checkIndex_8e157 : MethodName := ⟨RJ3, "checkIndex", "(IILjava/util/function/BiFunction;)I"⟩
def RL : String := "ElidedLocksLaw"
abbrev cL_machine : ByteArray := method_3_code
def yL_machine : MethodName := ⟨RL, "machine", "(LElidedLocks;[J)I"⟩
abbrev cL_thread : ByteArray := method_4_code
def yL_thread : MethodName := ⟨RL, "thread", "(LElidedLocks;II[J)I"⟩
abbrev cL_leftOut : ByteArray := method_5_code
def yL_leftOut : MethodName := ⟨RL, "leftOut", "(LElidedLocks;II[J)I"⟩
abbrev cL_blocks : ByteArray := method_6_code
def yL_blocks : MethodName := ⟨RL, "blocks", "(LElidedLocks;II[J)I"⟩
abbrev cL_fell : ByteArray := method_7_code
def yL_fell : MethodName := ⟨RL, "fell", "(LElidedLocks;II[J)I"⟩
abbrev cL_word : ByteArray := method_8_code
def yL_word : MethodName := ⟨RL, "word", "(LElidedLocks;I[J)I"⟩
abbrev cL_sees : ByteArray := method_9_code
def yL_sees : MethodName := ⟨RL, "sees", "(LElidedLocks;II[J)I"⟩
abbrev cL_lock : ByteArray := method_10_code
def yL_lock : MethodName := ⟨RL, "lock", "(LElidedLocks;II[J)I"⟩
abbrev cL_term : ByteArray := method_11_code
def yL_term : MethodName := ⟨RL, "term", "(LElidedLocks;I[J)I"⟩
abbrev cL_deed : ByteArray := method_12_code
def yL_deed : MethodName := ⟨RL, "deed", "(LElidedLocks;III[J)I"⟩
abbrev cL_step : ByteArray := method_13_code
def yL_step : MethodName := ⟨RL, "step", "(LElidedLocks;I[J)I"⟩
abbrev cL_run : ByteArray := method_14_code
def yL_run : MethodName := ⟨RL, "run", "(LElidedLocks;I[J)I"⟩
abbrev cL_chance : ByteArray := method_15_code
def yL_chance : MethodName := ⟨RL, "chance", "(LElidedLocks;I[J)I"⟩
abbrev cL_poke : ByteArray := method_16_code
def yL_poke : MethodName := ⟨RL, "poke", "(LElidedLocks;II[J)I"⟩
abbrev cL_tune : ByteArray := method_17_code
def yL_tune : MethodName := ⟨RL, "tune", "(LElidedLocks;II[J)I"⟩
abbrev cL_due : ByteArray := method_18_code
def yL_due : MethodName := ⟨RL, "due", "(LElidedLocks;I[J)I"⟩
abbrev cL_quickest : ByteArray := method_19_code
def yL_quickest : MethodName := ⟨RL, "quickest", "(LElidedLocks;I[J)I"⟩
abbrev cL_touches : ByteArray := method_20_code
def yL_touches : MethodName := ⟨RL, "touches", "(LElidedLocks;II[J)I"⟩
abbrev cL_rivals : ByteArray := method_21_code
def yL_rivals : MethodName := ⟨RL, "rivals", "(LElidedLocks;II[J)I"⟩
abbrev cL_nest : ByteArray := method_22_code
def yL_nest : MethodName := ⟨RL, "nest", "(LElidedLocks;I[J)I"⟩
abbrev cL_parts : ByteArray := method_23_code
def yL_parts : MethodName := ⟨RL, "parts", "(LElidedLocks;I[J)I"⟩
abbrev cL_output : ByteArray := method_24_code
def yL_output : MethodName := ⟨RL, "output", "(LElidedLocks;II[J)I"⟩
abbrev cL_log : ByteArray := method_25_code
def yL_log : MethodName := ⟨RL, "log", "(LElidedLocks;II[J)I"⟩
abbrev cL_text : ByteArray := method_26_code
def yL_text : MethodName := ⟨RL, "text", "(LElidedLocks;I[J)I"⟩
abbrev cL_law : ByteArray := code
def yL_law : MethodName := ⟨RL, "law", "([I)Z"⟩
abbrev vwCl : List vw_C := [(RX0, TX0, 10), (RX1, TX1, 4), (RX2, TX2, 3), (RX3, TX3, 14), (RX4, TX4, 10), (RX5, TX5, 5), (RX6, TX6, 10), (RX7, TX7, 2), (RX8, TX8, 10), (RX9, TX9, 17)]
end
section
/-! the class, the reference, the law and four methods of the JDK as tables: names, code, pools (written by program: wip/p1/gen02.py) -/
abbrev zMt : Type := MethodName × ByteArray × Nat × Option FieldType × List (Nat × Nat × Nat × Nat) × List (Nat × Instr × Nat)
def zcn : Nat → String := fun c => match c with
  | 0 => RX0
  | 1 => RX1
  | 2 => RX2
  | 3 => RX3
  | 4 => RX4
  | 5 => RX5
  | 6 => RX6
  | 7 => RX7
  | 8 => RX8
  | 9 => RX9
  | 10 => RL
  | 11 => RJ6
  | _ => RJ9
def zk_0_0_0 : List (Nat × Instr × Nat) := [(0, .aload_n 0, 1), (1, .invokespecial 3, 3), (4, .aload_n 0, 1), (5, .iconst 4, 1), (6, .newarray .int, 2), (8, .putfield 9, 3), (11, .aload_n 0, 1), (12, .bipush 32, 2), (14, .newarray .int, 2), (16, .putfield 15, 3), (19, .return_, 1)]
def zk_0_0 : List (Nat × Instr × Nat) := zk_0_0_0
def zk_0_1_0 : List (Nat × Instr × Nat) := [(0, .aload_n 0, 1), (1, .aload_n 1, 1), (2, .getfield 18, 3), (5, .putfield 18, 3), (8, .aload_n 0, 1), (9, .aload_n 1, 1), (10, .getfield 22, 3), (13, .putfield 22, 3), (16, .aload_n 0, 1), (17, .aload_n 1, 1), (18, .getfield 26, 3), (21, .putfield 26, 3), (24, .aload_n 0, 1), (25, .aload_n 1, 1), (26, .getfield 29, 3), (29, .putfield 29, 3), (32, .aload_n 1, 1), (33, .getfield 9, 3), (36, .iconst 0, 1), (37, .aload_n 0, 1), (38, .getfield 9, 3), (41, .iconst 0, 1), (42, .iconst 4, 1), (43, .invokestatic 32, 3), (46, .aload_n 0, 1), (47, .aload_n 1, 1), (48, .getfield 38, 3), (51, .putfield 38, 3), (54, .aload_n 0, 1), (55, .aload_n 1, 1), (56, .getfield 41, 3), (59, .putfield 41, 3), (62, .aload_n 0, 1), (63, .aload_n 1, 1), (64, .getfield 44, 3), (67, .putfield 44, 3), (70, .aload_n 1, 1), (71, .getfield 15, 3), (74, .iconst 0, 1), (75, .aload_n 0, 1), (76, .getfield 15, 3), (79, .iconst 0, 1), (80, .bipush 32, 2), (82, .invokestatic 32, 3), (85, .aload_n 0, 1), (86, .aload_n 1, 1), (87, .getfield 47, 3), (90, .putfield 47, 3), (93, .return_, 1)]
def zk_0_1 : List (Nat × Instr × Nat) := zk_0_1_0
def zk_0_2_0 : List (Nat × Instr × Nat) := [(0, .aload_n 0, 1), (1, .iconst 1, 1), (2, .putfield 18, 3), (5, .aload_n 0, 1), (6, .iload_n 1, 1), (7, .putfield 22, 3), (10, .aload_n 0, 1), (11, .iload_n 2, 1), (12, .putfield 26, 3), (15, .aload_n 0, 1), (16, .iload_n 3, 1), (17, .putfield 29, 3), (20, .return_, 1)]
def zk_0_2 : List (Nat × Instr × Nat) := zk_0_2_0
def zk_0_3_0 : List (Nat × Instr × Nat) := [(0, .aload_n 0, 1), (1, .iconst 0, 1), (2, .putfield 18, 3), (5, .aload_n 0, 1), (6, .iconst 0, 1), (7, .putfield 38, 3), (10, .aload_n 0, 1), (11, .iconst 0, 1), (12, .putfield 41, 3), (15, .aload_n 0, 1), (16, .iconst 0, 1), (17, .putfield 44, 3), (20, .aload_n 0, 1), (21, .iconst 0, 1), (22, .putfield 47, 3), (25, .return_, 1)]
def zk_0_3 : List (Nat × Instr × Nat) := zk_0_3_0
def zk_0_4_0 : List (Nat × Instr × Nat) := [(0, .iconst 0, 1), (1, .istore_n 2, 1), (2, .iload_n 2, 1), (3, .aload_n 0, 1), (4, .getfield 38, 3), (7, .if_icmp .ge 26, 3), (10, .iload_n 2, 1), (11, .iconst 4, 1), (12, .if_icmp .ge 21, 3), (15, .aload_n 0, 1), (16, .getfield 9, 3), (19, .iload_n 2, 1), (20, .iaload, 1), (21, .iload_n 1, 1), (22, .if_icmp .ne 5, 3), (25, .iconst 1, 1), (26, .ireturn, 1), (27, .iinc 2 1, 3), (30, .goto (-28), 3), (33, .iconst 0, 1), (34, .ireturn, 1)]
def zk_0_4 : List (Nat × Instr × Nat) := zk_0_4_0
def zk_0_5_0 : List (Nat × Instr × Nat) := [(0, .aload_n 0, 1), (1, .getfield 38, 3), (4, .iconst 4, 1), (5, .if_icmp .ge 23, 3), (8, .aload_n 0, 1), (9, .getfield 9, 3), (12, .aload_n 0, 1), (13, .getfield 38, 3), (16, .iload_n 1, 1), (17, .iastore, 1), (18, .aload_n 0, 1), (19, .dup, 1), (20, .getfield 38, 3), (23, .iconst 1, 1), (24, .iadd, 1), (25, .putfield 38, 3), (28, .return_, 1)]
def zk_0_5 : List (Nat × Instr × Nat) := zk_0_5_0
def zk_0_6_0 : List (Nat × Instr × Nat) := [(0, .aload_n 0, 1), (1, .getfield 38, 3), (4, .ifCond .le 25, 3), (7, .aload_n 0, 1), (8, .getfield 38, 3), (11, .iconst 4, 1), (12, .if_icmp .gt 17, 3), (15, .aload_n 0, 1), (16, .getfield 9, 3), (19, .aload_n 0, 1), (20, .getfield 38, 3), (23, .iconst 1, 1), (24, .isub, 1), (25, .iaload, 1), (26, .goto 4, 3), (29, .iconst (-1), 1), (30, .ireturn, 1)]
def zk_0_6 : List (Nat × Instr × Nat) := zk_0_6_0
def zk_0_7_0 : List (Nat × Instr × Nat) := [(0, .aload_n 0, 1), (1, .getfield 15, 3), (4, .iload_n 1, 1), (5, .bipush 31, 2), (7, .iand, 1), (8, .iload_n 2, 1), (9, .iastore, 1), (10, .aload_n 0, 1), (11, .dup, 1), (12, .getfield 47, 3), (15, .iconst 1, 1), (16, .iload_n 1, 1), (17, .ishl, 1), (18, .ior, 1), (19, .putfield 47, 3), (22, .aload_n 0, 1), (23, .dup, 1), (24, .getfield 44, 3), (27, .iload_n 3, 1), (28, .ior, 1), (29, .putfield 44, 3), (32, .return_, 1)]
def zk_0_7 : List (Nat × Instr × Nat) := zk_0_7_0
def zk_0_8_0 : List (Nat × Instr × Nat) := [(0, .aload_n 0, 1), (1, .getfield 47, 3), (4, .iload_n 1, 1), (5, .iushr, 1), (6, .iconst 1, 1), (7, .iand, 1), (8, .ifCond .eq 7, 3), (11, .iconst 1, 1), (12, .goto 4, 3), (15, .iconst 0, 1), (16, .ireturn, 1)]
def zk_0_8 : List (Nat × Instr × Nat) := zk_0_8_0
def zmc_0 : List zMt := [(yX0_init, cX0_init, 1, (none : Option FieldType), [], zk_0_0),
  (yX0_copyFrom, cX0_copyFrom, 2, (none : Option FieldType), [], zk_0_1),
  (yX0_begin, cX0_begin, 4, (none : Option FieldType), [], zk_0_2),
  (yX0_close, cX0_close, 1, (none : Option FieldType), [], zk_0_3),
  (yX0_leavesOut, cX0_leavesOut, 3, (some FieldType.boolean), [], zk_0_4),
  (yX0_leaveOut, cX0_leaveOut, 2, (none : Option FieldType), [], zk_0_5),
  (yX0_latestLeftOut, cX0_latestLeftOut, 1, (some FieldType.int), [], zk_0_6),
  (yX0_write, cX0_write, 4, (none : Option FieldType), [], zk_0_7),
  (yX0_hasValue, cX0_hasValue, 2, (some FieldType.boolean), [], zk_0_8)]
def zk_1_0_0 : List (Nat × Instr × Nat) := [(0, .aload_n 0, 1), (1, .invokespecial 3, 3), (4, .aload_n 0, 1), (5, .iload_n 1, 1), (6, .putfield 9, 3), (9, .aload_n 0, 1), (10, .bipush 8, 2), (12, .putfield 15, 3), (15, .return_, 1)]
def zk_1_0 : List (Nat × Instr × Nat) := zk_1_0_0
def zk_1_1_0 : List (Nat × Instr × Nat) := [(0, .aload_n 0, 1), (1, .aload_n 1, 1), (2, .getfield 9, 3), (5, .putfield 9, 3), (8, .aload_n 0, 1), (9, .aload_n 1, 1), (10, .getfield 15, 3), (13, .putfield 15, 3), (16, .aload_n 0, 1), (17, .aload_n 1, 1), (18, .getfield 18, 3), (21, .putfield 18, 3), (24, .aload_n 0, 1), (25, .aload_n 1, 1), (26, .getfield 21, 3), (29, .putfield 21, 3), (32, .return_, 1)]
def zk_1_1 : List (Nat × Instr × Nat) := zk_1_1_0
def zk_1_2_0 : List (Nat × Instr × Nat) := [(0, .aload_n 0, 1), (1, .aload_n 0, 1), (2, .getfield 15, 3), (5, .iload_n 1, 1), (6, .iadd, 1), (7, .bipush 15, 2), (9, .if_icmp .ge 12, 3), (12, .aload_n 0, 1), (13, .getfield 15, 3), (16, .iload_n 1, 1), (17, .iadd, 1), (18, .goto 5, 3), (21, .bipush 15, 2), (23, .putfield 15, 3), (26, .return_, 1)]
def zk_1_2 : List (Nat × Instr × Nat) := zk_1_2_0
def zk_1_3_0 : List (Nat × Instr × Nat) := [(0, .aload_n 0, 1), (1, .aload_n 0, 1), (2, .getfield 15, 3), (5, .iload_n 1, 1), (6, .if_icmp .le 12, 3), (9, .aload_n 0, 1), (10, .getfield 15, 3), (13, .iload_n 1, 1), (14, .isub, 1), (15, .goto 4, 3), (18, .iconst 0, 1), (19, .putfield 15, 3), (22, .return_, 1)]
def zk_1_3 : List (Nat × Instr × Nat) := zk_1_3_0
def zmc_1 : List zMt := [(yX1_init, cX1_init, 2, (none : Option FieldType), [], zk_1_0),
  (yX1_copyFrom, cX1_copyFrom, 2, (none : Option FieldType), [], zk_1_1),
  (yX1_gain, cX1_gain, 2, (none : Option FieldType), [], zk_1_2),
  (yX1_lose, cX1_lose, 2, (none : Option FieldType), [], zk_1_3)]
def zk_2_0_0 : List (Nat × Instr × Nat) := [(0, .aload_n 0, 1), (1, .invokespecial 3, 3), (4, .aload_n 0, 1), (5, .sipush 240, 3), (8, .newarray .int, 2), (10, .putfield 9, 3), (13, .return_, 1)]
def zk_2_0 : List (Nat × Instr × Nat) := zk_2_0_0
def zk_2_1_0 : List (Nat × Instr × Nat) := [(0, .aload_n 1, 1), (1, .getfield 9, 3), (4, .iconst 0, 1), (5, .aload_n 0, 1), (6, .getfield 9, 3), (9, .iconst 0, 1), (10, .sipush 240, 3), (13, .invokestatic 15, 3), (16, .aload_n 0, 1), (17, .aload_n 1, 1), (18, .getfield 21, 3), (21, .putfield 21, 3), (24, .aload_n 0, 1), (25, .aload_n 1, 1), (26, .getfield 25, 3), (29, .putfield 25, 3), (32, .return_, 1)]
def zk_2_1 : List (Nat × Instr × Nat) := zk_2_1_0
def zk_2_2_0 : List (Nat × Instr × Nat) := [(0, .aload_n 0, 1), (1, .getfield 25, 3), (4, .ifCond .lt 12, 3), (7, .aload_n 0, 1), (8, .getfield 25, 3), (11, .bipush 60, 2), (13, .if_icmp .lt 8, 3), (16, .aload_n 0, 1), (17, .iconst 0, 1), (18, .putfield 25, 3), (21, .aload_n 0, 1), (22, .getfield 25, 3), (25, .iconst 4, 1), (26, .imul, 1), (27, .istore 5, 2), (29, .aload_n 0, 1), (30, .getfield 9, 3), (33, .iload 5, 2), (35, .iload_n 1, 1), (36, .iastore, 1), (37, .aload_n 0, 1), (38, .getfield 9, 3), (41, .iload 5, 2), (43, .iconst 1, 1), (44, .iadd, 1), (45, .iload_n 2, 1), (46, .iastore, 1), (47, .aload_n 0, 1), (48, .getfield 9, 3), (51, .iload 5, 2), (53, .iconst 2, 1), (54, .iadd, 1), (55, .iload_n 3, 1), (56, .iastore, 1), (57, .aload_n 0, 1), (58, .getfield 9, 3), (61, .iload 5, 2), (63, .iconst 3, 1), (64, .iadd, 1), (65, .iload 4, 2), (67, .iastore, 1), (68, .aload_n 0, 1), (69, .aload_n 0, 1), (70, .getfield 25, 3), (73, .iconst 1, 1), (74, .iadd, 1), (75, .bipush 60, 2), (77, .irem, 1), (78, .putfield 25, 3), (81, .aload_n 0, 1), (82, .getfield 21, 3), (85, .bipush 60, 2), (87, .if_icmp .ge 13, 3), (90, .aload_n 0, 1), (91, .dup, 1), (92, .getfield 21, 3), (95, .iconst 1, 1), (96, .iadd, 1), (97, .putfield 21, 3), (100, .return_, 1)]
def zk_2_2 : List (Nat × Instr × Nat) := zk_2_2_0
def zk_2_3_0 : List (Nat × Instr × Nat) := [(0, .iload_n 1, 1), (1, .ifCond .lt 20, 3), (4, .iload_n 1, 1), (5, .aload_n 0, 1), (6, .getfield 21, 3), (9, .if_icmp .ge 12, 3), (12, .iload_n 2, 1), (13, .ifCond .lt 8, 3), (16, .iload_n 2, 1), (17, .iconst 4, 1), (18, .if_icmp .lt 5, 3), (21, .iconst (-1), 1), (22, .ireturn, 1), (23, .aload_n 0, 1), (24, .getfield 9, 3), (27, .aload_n 0, 1), (28, .getfield 25, 3), (31, .iconst 1, 1), (32, .isub, 1), (33, .iload_n 1, 1), (34, .isub, 1), (35, .bipush 60, 2), (37, .invokestatic 28, 3), (40, .iconst 4, 1), (41, .imul, 1), (42, .iload_n 2, 1), (43, .iadd, 1), (44, .iaload, 1), (45, .ireturn, 1)]
def zk_2_3 : List (Nat × Instr × Nat) := zk_2_3_0
def zmc_2 : List zMt := [(yX2_init, cX2_init, 1, (none : Option FieldType), [], zk_2_0),
  (yX2_copyFrom, cX2_copyFrom, 2, (none : Option FieldType), [], zk_2_1),
  (yX2_add, cX2_add, 6, (none : Option FieldType), [], zk_2_2),
  (yX2_cell, cX2_cell, 3, (some FieldType.int), [], zk_2_3)]
def zk_3_0_0 : List (Nat × Instr × Nat) := [(0, .aload_n 0, 1), (1, .invokespecial 3, 3), (4, .aload_n 0, 1), (5, .bipush 32, 2), (7, .newarray .int, 2), (9, .putfield 9, 3), (12, .aload_n 0, 1), (13, .bipush 32, 2), (15, .newarray .int, 2), (17, .putfield 15, 3), (20, .aload_n 0, 1), (21, .bipush 9, 2), (23, .newarray .int, 2), (25, .dup, 1), (26, .iconst 0, 1), (27, .iconst 2, 1), (28, .iastore, 1), (29, .dup, 1), (30, .iconst 1, 1), (31, .iconst 3, 1), (32, .iastore, 1), (33, .dup, 1), (34, .iconst 2, 1), (35, .iconst 2, 1), (36, .iastore, 1), (37, .dup, 1), (38, .iconst 3, 1), (39, .iconst 4, 1), (40, .iastore, 1), (41, .dup, 1), (42, .iconst 4, 1), (43, .bipush 8, 2), (45, .iastore, 1), (46, .dup, 1), (47, .iconst 5, 1), (48, .iconst 1, 1), (49, .iastore, 1), (50, .dup, 1), (51, .bipush 6, 2), (53, .iconst 4, 1), (54, .iastore, 1), (55, .dup, 1), (56, .bipush 7, 2), (58, .iconst 2, 1), (59, .iastore, 1), (60, .dup, 1), (61, .bipush 8, 2), (63, .iconst 0, 1), (64, .iastore, 1), (65, .putfield 18, 3), (68, .aload_n 0, 1), (69, .iconst 4, 1), (70, .anewarray 21, 3), (73, .dup, 1), (74, .iconst 0, 1), (75, .new 21, 3), (78, .dup, 1), (79, .bipush 16, 2), (81, .invokespecial 23, 3), (84, .aastore, 1), (85, .dup, 1), (86, .iconst 1, 1), (87, .new 21, 3), (90, .dup, 1), (91, .bipush 20, 2), (93, .invokespecial 23, 3), (96, .aastore, 1), (97, .dup, 1), (98, .iconst 2, 1), (99, .new 21, 3), (102, .dup, 1), (103, .bipush 24, 2), (105, .invokespecial 23, 3), (108, .aastore, 1), (109, .dup, 1), (110, .iconst 3, 1), (111, .new 21, 3), (114, .dup, 1), (115, .bipush 28, 2), (117, .invokespecial 23, 3), (120, .aastore, 1), (121, .putfield 26, 3), (124, .aload_n 0, 1), (125, .iconst 4, 1), (126, .anewarray 30, 3), (129, .dup, 1), (130, .iconst 0, 1), (131, .new 30, 3), (134, .dup, 1), (135, .invokespecial 32, 3), (138, .aastore, 1), (139, .dup, 1), (140, .iconst 1, 1), (141, .new 30, 3), (144, .dup, 1), (145, .invokespecial 32, 3), (148, .aastore, 1), (149, .dup, 1), (150, .iconst 2, 1), (151, .new 30, 3)]
def zk_3_0_1 : List (Nat × Instr × Nat) := [(154, .dup, 1), (155, .invokespecial 32, 3), (158, .aastore, 1), (159, .dup, 1), (160, .iconst 3, 1), (161, .new 30, 3), (164, .dup, 1), (165, .invokespecial 32, 3), (168, .aastore, 1), (169, .putfield 33, 3), (172, .aload_n 0, 1), (173, .iconst (-1), 1), (174, .putfield 37, 3), (177, .aload_n 0, 1), (178, .iconst 1, 1), (179, .putfield 41, 3), (182, .aload_n 0, 1), (183, .bipush 20, 2), (185, .newarray .int, 2), (187, .putfield 44, 3), (190, .aload_n 0, 1), (191, .bipush 20, 2), (193, .newarray .int, 2), (195, .putfield 47, 3), (198, .aload_n 0, 1), (199, .new 50, 3), (202, .dup, 1), (203, .invokespecial 52, 3), (206, .putfield 53, 3), (209, .return_, 1)]
def zk_3_0 : List (Nat × Instr × Nat) := zk_3_0_0 ++ (zk_3_0_1)
def zk_3_1_0 : List (Nat × Instr × Nat) := [(0, .aload_n 1, 1), (1, .getfield 9, 3), (4, .iconst 0, 1), (5, .aload_n 0, 1), (6, .getfield 9, 3), (9, .iconst 0, 1), (10, .bipush 32, 2), (12, .invokestatic 57, 3), (15, .aload_n 1, 1), (16, .getfield 15, 3), (19, .iconst 0, 1), (20, .aload_n 0, 1), (21, .getfield 15, 3), (24, .iconst 0, 1), (25, .bipush 32, 2), (27, .invokestatic 57, 3), (30, .aload_n 1, 1), (31, .getfield 18, 3), (34, .iconst 0, 1), (35, .aload_n 0, 1), (36, .getfield 18, 3), (39, .iconst 0, 1), (40, .bipush 9, 2), (42, .invokestatic 57, 3), (45, .iconst 0, 1), (46, .istore_n 2, 1), (47, .iload_n 2, 1), (48, .iconst 4, 1), (49, .if_icmp .ge 24, 3), (52, .aload_n 0, 1), (53, .getfield 26, 3), (56, .iload_n 2, 1), (57, .aaload, 1), (58, .aload_n 1, 1), (59, .getfield 26, 3), (62, .iload_n 2, 1), (63, .aaload, 1), (64, .invokevirtual 63, 3), (67, .iinc 2 1, 3), (70, .goto (-23), 3), (73, .aload_n 0, 1), (74, .aload_n 1, 1), (75, .getfield 67, 3), (78, .putfield 67, 3), (81, .iconst 0, 1), (82, .istore_n 2, 1), (83, .iload_n 2, 1), (84, .aload_n 0, 1), (85, .getfield 67, 3), (88, .if_icmp .ge 29, 3), (91, .iload_n 2, 1), (92, .iconst 4, 1), (93, .if_icmp .ge 24, 3), (96, .aload_n 0, 1), (97, .getfield 33, 3), (100, .iload_n 2, 1), (101, .aaload, 1), (102, .aload_n 1, 1), (103, .getfield 33, 3), (106, .iload_n 2, 1), (107, .aaload, 1), (108, .invokevirtual 70, 3), (111, .iinc 2 1, 3), (114, .goto (-31), 3), (117, .aload_n 0, 1), (118, .aload_n 1, 1), (119, .getfield 73, 3), (122, .putfield 73, 3), (125, .aload_n 0, 1), (126, .aload_n 1, 1), (127, .getfield 76, 3), (130, .putfield 76, 3), (133, .aload_n 0, 1), (134, .aload_n 1, 1), (135, .getfield 37, 3), (138, .putfield 37, 3), (141, .aload_n 0, 1), (142, .aload_n 1, 1), (143, .getfield 41, 3), (146, .putfield 41, 3), (149, .aload_n 1, 1), (150, .getfield 44, 3), (153, .iconst 0, 1), (154, .aload_n 0, 1), (155, .getfield 44, 3), (158, .iconst 0, 1), (159, .bipush 20, 2), (161, .invokestatic 57, 3), (164, .aload_n 1, 1), (165, .getfield 47, 3), (168, .iconst 0, 1), (169, .aload_n 0, 1), (170, .getfield 47, 3), (173, .iconst 0, 1), (174, .bipush 20, 2), (176, .invokestatic 57, 3), (179, .aload_n 0, 1), (180, .aload_n 1, 1), (181, .getfield 79, 3), (184, .putfield 79, 3)]
def zk_3_1_1 : List (Nat × Instr × Nat) := [(187, .aload_n 0, 1), (188, .getfield 53, 3), (191, .aload_n 1, 1), (192, .getfield 53, 3), (195, .invokevirtual 82, 3), (198, .return_, 1)]
def zk_3_1 : List (Nat × Instr × Nat) := zk_3_1_0 ++ (zk_3_1_1)
def zk_3_2_0 : List (Nat × Instr × Nat) := [(0, .aload_n 0, 1), (1, .getfield 33, 3), (4, .iload_n 1, 1), (5, .iconst 3, 1), (6, .iand, 1), (7, .aaload, 1), (8, .areturn, 1)]
def zk_3_2 : List (Nat × Instr × Nat) := zk_3_2_0
def zk_3_3_0 : List (Nat × Instr × Nat) := [(0, .aload_n 0, 1), (1, .getfield 26, 3), (4, .iload_n 1, 1), (5, .iconst 3, 1), (6, .iand, 1), (7, .aaload, 1), (8, .areturn, 1)]
def zk_3_3 : List (Nat × Instr × Nat) := zk_3_3_0
def zk_3_4_0 : List (Nat × Instr × Nat) := [(0, .iconst 1, 1), (1, .aload_n 0, 1), (2, .getfield 18, 3), (5, .iconst 0, 1), (6, .iaload, 1), (7, .invokestatic 85, 3), (10, .istore_n 2, 1), (11, .iconst 1, 1), (12, .iload_n 1, 1), (13, .iload_n 2, 1), (14, .idiv, 1), (15, .ishl, 1), (16, .ireturn, 1)]
def zk_3_4 : List (Nat × Instr × Nat) := zk_3_4_0
def zk_3_5_0 : List (Nat × Instr × Nat) := [(0, .iload_n 2, 1), (1, .bipush 31, 2), (3, .iand, 1), (4, .istore_n 3, 1), (5, .aload_n 1, 1), (6, .getfield 91, 3), (9, .getfield 95, 3), (12, .ifCond .eq 26, 3), (15, .aload_n 1, 1), (16, .getfield 91, 3), (19, .iload_n 3, 1), (20, .invokevirtual 101, 3), (23, .ifCond .eq 15, 3), (26, .aload_n 1, 1), (27, .getfield 91, 3), (30, .getfield 105, 3), (33, .iload_n 3, 1), (34, .iaload, 1), (35, .goto 9, 3), (38, .aload_n 0, 1), (39, .getfield 9, 3), (42, .iload_n 3, 1), (43, .iaload, 1), (44, .ireturn, 1)]
def zk_3_5 : List (Nat × Instr × Nat) := zk_3_5_0
def zk_3_6_0 : List (Nat × Instr × Nat) := [(0, .iload_n 1, 1), (1, .iconst (-1), 1), (2, .if_icmp .eq 21, 3), (5, .aload_n 0, 1), (6, .iload_n 1, 1), (7, .invokevirtual 108, 3), (10, .getfield 91, 3), (13, .getfield 95, 3), (16, .ifCond .eq 7, 3), (19, .iconst 1, 1), (20, .goto 4, 3), (23, .iconst 0, 1), (24, .ireturn, 1)]
def zk_3_6 : List (Nat × Instr × Nat) := zk_3_6_0
def zk_3_7_0 : List (Nat × Instr × Nat) := [(0, .iload_n 1, 1), (1, .iconst (-1), 1), (2, .if_icmp .ne 19, 3), (5, .aload_n 0, 1), (6, .invokevirtual 112, 3), (9, .iconst (-1), 1), (10, .if_icmp .ne 7, 3), (13, .iconst 1, 1), (14, .goto 15, 3), (17, .iconst 0, 1), (18, .goto 11, 3), (21, .aload_n 0, 1), (22, .iload_n 1, 1), (23, .invokevirtual 108, 3), (26, .invokevirtual 116, 3), (29, .ireturn, 1)]
def zk_3_7 : List (Nat × Instr × Nat) := zk_3_7_0
def zk_3_8_0 : List (Nat × Instr × Nat) := [(0, .iconst 1, 1), (1, .istore_n 1, 1), (2, .iload_n 1, 1), (3, .aload_n 0, 1), (4, .getfield 67, 3), (7, .if_icmp .gt 34, 3), (10, .aload_n 0, 1), (11, .getfield 37, 3), (14, .iload_n 1, 1), (15, .iadd, 1), (16, .aload_n 0, 1), (17, .getfield 67, 3), (20, .irem, 1), (21, .istore_n 2, 1), (22, .aload_n 0, 1), (23, .iload_n 2, 1), (24, .invokevirtual 108, 3), (27, .invokevirtual 116, 3), (30, .ifCond .ne 5, 3), (33, .iload_n 2, 1), (34, .ireturn, 1), (35, .iinc 1 1, 3), (38, .goto (-36), 3), (41, .iconst (-1), 1), (42, .ireturn, 1)]
def zk_3_8 : List (Nat × Instr × Nat) := zk_3_8_0
def zk_3_9_0 : List (Nat × Instr × Nat) := [(0, .aload_n 0, 1), (1, .getfield 67, 3), (4, .aload_n 0, 1), (5, .invokevirtual 120, 3), (8, .invokestatic 123, 3), (11, .isub, 1), (12, .istore_n 1, 1), (13, .iload_n 1, 1), (14, .iconst 1, 1), (15, .if_icmp .ge 5, 3), (18, .iconst (-1), 1), (19, .ireturn, 1), (20, .aload_n 0, 1), (21, .iload_n 1, 1), (22, .invokevirtual 129, 3), (25, .istore_n 2, 1), (26, .iconst 0, 1), (27, .istore_n 3, 1), (28, .iload_n 3, 1), (29, .aload_n 0, 1), (30, .getfield 67, 3), (33, .if_icmp .ge 29, 3), (36, .aload_n 0, 1), (37, .iload_n 3, 1), (38, .invokevirtual 108, 3), (41, .invokevirtual 116, 3), (44, .ifCond .ne 12, 3), (47, .iload_n 2, 1), (48, .ifCond .ne 5, 3), (51, .iload_n 3, 1), (52, .ireturn, 1), (53, .iinc 2 (-1), 3), (56, .iinc 3 1, 3), (59, .goto (-31), 3), (62, .iconst (-1), 1), (63, .ireturn, 1)]
def zk_3_9 : List (Nat × Instr × Nat) := zk_3_9_0
def zk_3_10_0 : List (Nat × Instr × Nat) := [(0, .aload_n 0, 1), (1, .aload_n 0, 1), (2, .getfield 41, 3), (5, .ldc 132, 2), (7, .imul, 1), (8, .sipush 12345, 3), (11, .iadd, 1), (12, .putfield 41, 3), (15, .iload_n 1, 1), (16, .iconst 1, 1), (17, .if_icmp .ge 7, 3), (20, .iconst 0, 1), (21, .goto 16, 3), (24, .aload_n 0, 1), (25, .getfield 41, 3), (28, .bipush 16, 2), (30, .iushr, 1), (31, .sipush 32767, 3), (34, .iand, 1), (35, .iload_n 1, 1), (36, .irem, 1), (37, .ireturn, 1)]
def zk_3_10 : List (Nat × Instr × Nat) := zk_3_10_0
def zk_3_11_0 : List (Nat × Instr × Nat) := [(0, .aload_n 0, 1), (1, .iload_n 1, 1), (2, .invokevirtual 108, 3), (5, .astore_n 2, 1), (6, .aload_n 2, 1), (7, .aload_n 2, 1), (8, .getfield 133, 3), (11, .invokevirtual 136, 3), (14, .istore_n 3, 1), (15, .iconst 1, 1), (16, .istore 4, 2), (18, .aload_n 2, 1), (19, .aload_n 2, 1), (20, .getfield 133, 3), (23, .invokevirtual 139, 3), (26, .tableswitch 149 0 6 #[42, 74, 86, 98, 113, 121, 138], 42), (68, .aload_n 2, 1), (69, .getfield 91, 3), (72, .getfield 95, 3), (75, .ifCond .eq 13, 3), (78, .aload_n 0, 1), (79, .iload_n 1, 1), (80, .aload_n 2, 1), (81, .iload_n 3, 1), (82, .invokevirtual 142, 3), (85, .goto 10, 3), (88, .aload_n 0, 1), (89, .iload_n 1, 1), (90, .aload_n 2, 1), (91, .iload_n 3, 1), (92, .invokevirtual 146, 3), (95, .istore 4, 2), (97, .goto 86, 3), (100, .aload_n 0, 1), (101, .iload_n 1, 1), (102, .aload_n 2, 1), (103, .iload_n 3, 1), (104, .invokevirtual 149, 3), (107, .istore 4, 2), (109, .goto 74, 3), (112, .aload_n 0, 1), (113, .iload_n 1, 1), (114, .aload_n 2, 1), (115, .iload_n 3, 1), (116, .invokevirtual 152, 3), (119, .istore 4, 2), (121, .goto 62, 3), (124, .aload_n 0, 1), (125, .iload_n 1, 1), (126, .iload_n 3, 1), (127, .aload_n 2, 1), (128, .getfield 155, 3), (131, .invokevirtual 158, 3), (134, .istore 4, 2), (136, .goto 47, 3), (139, .aload_n 2, 1), (140, .iload_n 3, 1), (141, .putfield 155, 3), (144, .goto 39, 3), (147, .aload_n 2, 1), (148, .aload_n 2, 1), (149, .getfield 155, 3), (152, .iload_n 3, 1), (153, .iadd, 1), (154, .sipush 10000, 3), (157, .irem, 1), (158, .putfield 155, 3), (161, .goto 22, 3), (164, .aload_n 0, 1), (165, .aload_n 2, 1), (166, .iload_n 3, 1), (167, .invokevirtual 162, 3), (170, .istore 4, 2), (172, .goto 11, 3), (175, .aload_n 0, 1), (176, .iload_n 1, 1), (177, .aload_n 2, 1), (178, .invokevirtual 166, 3), (181, .istore 4, 2), (183, .iload 4, 2), (185, .iconst 1, 1), (186, .if_icmp .ne 11, 3), (189, .aload_n 0, 1), (190, .iload_n 1, 1), (191, .aload_n 2, 1), (192, .invokevirtual 170, 3), (195, .istore 4, 2), (197, .aload_n 0, 1), (198, .dup, 1), (199, .getfield 76, 3), (202, .iconst 1, 1), (203, .iadd, 1), (204, .putfield 76, 3), (207, .aload_n 0, 1), (208, .iload_n 1, 1), (209, .putfield 37, 3), (212, .iload 4, 2), (214, .ireturn, 1)]
def zk_3_11 : List (Nat × Instr × Nat) := zk_3_11_0
def zk_3_12_0 : List (Nat × Instr × Nat) := [(0, .aload_n 2, 1), (1, .dup, 1), (2, .getfield 133, 3), (5, .iconst 1, 1), (6, .iadd, 1), (7, .putfield 133, 3), (10, .aload_n 2, 1), (11, .iconst 0, 1), (12, .putfield 173, 3), (15, .aload_n 2, 1), (16, .invokevirtual 116, 3), (19, .ifCond .ne 5, 3), (22, .iconst 1, 1), (23, .ireturn, 1), (24, .aload_n 2, 1), (25, .getfield 91, 3), (28, .getfield 95, 3), (31, .ifCond .eq 10, 3), (34, .aload_n 0, 1), (35, .iload_n 1, 1), (36, .iconst 2, 1), (37, .invokevirtual 176, 3), (40, .ireturn, 1), (41, .aload_n 0, 1), (42, .getfield 53, 3), (45, .aload_n 0, 1), (46, .getfield 76, 3), (49, .iload_n 1, 1), (50, .bipush 6, 2), (52, .iconst 0, 1), (53, .invokevirtual 179, 3), (56, .iconst 1, 1), (57, .ireturn, 1)]
def zk_3_12 : List (Nat × Instr × Nat) := zk_3_12_0
def zk_3_13_0 : List (Nat × Instr × Nat) := [(0, .aload_n 0, 1), (1, .iload_n 3, 1), (2, .invokevirtual 183, 3), (5, .astore 4, 2), (7, .aload_n 0, 1), (8, .iload_n 1, 1), (9, .aload 4, 2), (11, .getfield 187, 3), (14, .iconst (-1), 1), (15, .invokevirtual 158, 3), (18, .pop, 1), (19, .aload_n 0, 1), (20, .getfield 9, 3), (23, .aload 4, 2), (25, .getfield 187, 3), (28, .bipush 31, 2), (30, .iand, 1), (31, .iaload, 1), (32, .ifCond .eq 5, 3), (35, .iconst 0, 1), (36, .ireturn, 1), (37, .aload_n 2, 1), (38, .getfield 190, 3), (41, .aload_n 0, 1), (42, .getfield 18, 3), (45, .iconst 1, 1), (46, .iaload, 1), (47, .if_icmp .ge 76, 3), (50, .aload 4, 2), (52, .getfield 193, 3), (55, .aload_n 0, 1), (56, .getfield 18, 3), (59, .iconst 4, 1), (60, .iaload, 1), (61, .if_icmp .lt 62, 3), (64, .aload_n 2, 1), (65, .getfield 91, 3), (68, .aload_n 2, 1), (69, .getfield 133, 3), (72, .aload_n 2, 1), (73, .getfield 155, 3), (76, .aload_n 0, 1), (77, .getfield 76, 3), (80, .invokevirtual 196, 3), (83, .aload_n 2, 1), (84, .getfield 91, 3), (87, .iload_n 3, 1), (88, .invokevirtual 200, 3), (91, .aload_n 2, 1), (92, .getfield 91, 3), (95, .aload_n 0, 1), (96, .aload 4, 2), (98, .getfield 187, 3), (101, .invokevirtual 203, 3), (104, .putfield 206, 3), (107, .aload_n 0, 1), (108, .getfield 53, 3), (111, .aload_n 0, 1), (112, .getfield 76, 3), (115, .iload_n 1, 1), (116, .iconst 0, 1), (117, .iload_n 3, 1), (118, .invokevirtual 179, 3), (121, .iconst 1, 1), (122, .ireturn, 1), (123, .aload_n 0, 1), (124, .iload_n 1, 1), (125, .aload 4, 2), (127, .getfield 187, 3), (130, .iconst 1, 1), (131, .invokevirtual 158, 3), (134, .pop, 1), (135, .aload_n 2, 1), (136, .iconst 0, 1), (137, .putfield 190, 3), (140, .aload 4, 2), (142, .dup, 1), (143, .getfield 209, 3), (146, .iconst 1, 1), (147, .iadd, 1), (148, .putfield 209, 3), (151, .aload 4, 2), (153, .getfield 209, 3), (156, .iconst 1, 1), (157, .aload_n 0, 1), (158, .getfield 18, 3), (161, .bipush 7, 2), (163, .iaload, 1), (164, .invokestatic 85, 3), (167, .irem, 1), (168, .ifCond .ne 9, 3), (171, .aload 4, 2), (173, .iconst 1, 1), (174, .invokevirtual 212, 3), (177, .aload_n 0, 1), (178, .getfield 53, 3), (181, .aload_n 0, 1), (182, .getfield 76, 3), (185, .iload_n 1, 1), (186, .iconst 3, 1)]
def zk_3_13_1 : List (Nat × Instr × Nat) := [(187, .iload_n 3, 1), (188, .invokevirtual 179, 3), (191, .iconst 1, 1), (192, .ireturn, 1)]
def zk_3_13 : List (Nat × Instr × Nat) := zk_3_13_0 ++ (zk_3_13_1)
def zk_3_14_0 : List (Nat × Instr × Nat) := [(0, .aload_n 0, 1), (1, .iload_n 3, 1), (2, .invokevirtual 183, 3), (5, .getfield 187, 3), (8, .istore 4, 2), (10, .aload_n 0, 1), (11, .iload_n 1, 1), (12, .iload 4, 2), (14, .iconst (-1), 1), (15, .invokevirtual 158, 3), (18, .iconst (-1), 1), (19, .if_icmp .ne 5, 3), (22, .iconst (-1), 1), (23, .ireturn, 1), (24, .aload_n 2, 1), (25, .getfield 91, 3), (28, .iload_n 3, 1), (29, .invokevirtual 215, 3), (32, .ifCond .eq 10, 3), (35, .aload_n 0, 1), (36, .iload_n 1, 1), (37, .iconst 2, 1), (38, .invokevirtual 176, 3), (41, .ireturn, 1), (42, .aload_n 0, 1), (43, .aload_n 2, 1), (44, .iload 4, 2), (46, .invokevirtual 218, 3), (49, .ifCond .eq 10, 3), (52, .aload_n 0, 1), (53, .iload_n 1, 1), (54, .iconst 4, 1), (55, .invokevirtual 176, 3), (58, .ireturn, 1), (59, .aload_n 2, 1), (60, .getfield 91, 3), (63, .getfield 221, 3), (66, .aload_n 0, 1), (67, .getfield 18, 3), (70, .iconst 2, 1), (71, .iaload, 1), (72, .if_icmp .ge 13, 3), (75, .aload_n 2, 1), (76, .getfield 91, 3), (79, .iload_n 3, 1), (80, .invokevirtual 200, 3), (83, .iconst 1, 1), (84, .ireturn, 1), (85, .aload_n 0, 1), (86, .iload_n 1, 1), (87, .iload 4, 2), (89, .iconst 1, 1), (90, .invokevirtual 158, 3), (93, .ireturn, 1)]
def zk_3_14 : List (Nat × Instr × Nat) := zk_3_14_0
def zk_3_15_0 : List (Nat × Instr × Nat) := [(0, .aload_n 2, 1), (1, .getfield 91, 3), (4, .getfield 95, 3), (7, .ifCond .eq 64, 3), (10, .aload_n 2, 1), (11, .getfield 91, 3), (14, .iload_n 3, 1), (15, .invokevirtual 215, 3), (18, .ifCond .eq 53, 3), (21, .aload_n 2, 1), (22, .getfield 91, 3), (25, .invokevirtual 224, 3), (28, .iload_n 3, 1), (29, .if_icmp .eq 10, 3), (32, .aload_n 0, 1), (33, .iload_n 1, 1), (34, .iconst 2, 1), (35, .invokevirtual 176, 3), (38, .ireturn, 1), (39, .aload_n 2, 1), (40, .getfield 91, 3), (43, .dup, 1), (44, .getfield 221, 3), (47, .iconst 1, 1), (48, .isub, 1), (49, .putfield 221, 3), (52, .aload_n 2, 1), (53, .getfield 91, 3), (56, .getfield 221, 3), (59, .ifCond .ne 10, 3), (62, .aload_n 0, 1), (63, .iload_n 1, 1), (64, .aload_n 2, 1), (65, .iload_n 3, 1), (66, .invokevirtual 227, 3), (69, .iconst 1, 1), (70, .ireturn, 1), (71, .aload_n 0, 1), (72, .iload_n 1, 1), (73, .aload_n 0, 1), (74, .iload_n 3, 1), (75, .invokevirtual 183, 3), (78, .getfield 187, 3), (81, .iconst 0, 1), (82, .invokevirtual 158, 3), (85, .istore 4, 2), (87, .iload 4, 2), (89, .iconst 1, 1), (90, .if_icmp .ne 27, 3), (93, .aload_n 2, 1), (94, .getfield 91, 3), (97, .getfield 95, 3), (100, .ifCond .ne 17, 3), (103, .aload_n 0, 1), (104, .getfield 53, 3), (107, .aload_n 0, 1), (108, .getfield 76, 3), (111, .iload_n 1, 1), (112, .iconst 4, 1), (113, .iload_n 3, 1), (114, .invokevirtual 179, 3), (117, .iload 4, 2), (119, .ireturn, 1)]
def zk_3_15 : List (Nat × Instr × Nat) := zk_3_15_0
def zk_3_16_0 : List (Nat × Instr × Nat) := [(0, .iconst 0, 1), (1, .istore 4, 2), (3, .iload 4, 2), (5, .bipush 32, 2), (7, .if_icmp .ge 23, 3), (10, .aload_n 0, 1), (11, .getfield 9, 3), (14, .iload 4, 2), (16, .aload_n 0, 1), (17, .aload_n 2, 1), (18, .iload 4, 2), (20, .invokevirtual 218, 3), (23, .iastore, 1), (24, .iinc 4 1, 3), (27, .goto (-24), 3), (30, .aload_n 2, 1), (31, .getfield 91, 3), (34, .invokevirtual 231, 3), (37, .aload_n 2, 1), (38, .iconst 0, 1), (39, .putfield 190, 3), (42, .aload_n 2, 1), (43, .dup, 1), (44, .getfield 234, 3), (47, .iconst 1, 1), (48, .iadd, 1), (49, .putfield 234, 3), (52, .aload_n 0, 1), (53, .iload_n 3, 1), (54, .invokevirtual 183, 3), (57, .aload_n 0, 1), (58, .getfield 18, 3), (61, .iconst 5, 1), (62, .iaload, 1), (63, .invokevirtual 212, 3), (66, .aload_n 0, 1), (67, .iload_n 3, 1), (68, .invokevirtual 183, 3), (71, .dup, 1), (72, .getfield 237, 3), (75, .iconst 1, 1), (76, .iadd, 1), (77, .putfield 237, 3), (80, .aload_n 0, 1), (81, .getfield 53, 3), (84, .aload_n 0, 1), (85, .getfield 76, 3), (88, .iload_n 1, 1), (89, .iconst 1, 1), (90, .iload_n 3, 1), (91, .invokevirtual 179, 3), (94, .return_, 1)]
def zk_3_16 : List (Nat × Instr × Nat) := zk_3_16_0
def zk_3_17_0 : List (Nat × Instr × Nat) := [(0, .aload_n 0, 1), (1, .iload_n 1, 1), (2, .iload_n 3, 1), (3, .iconst (-1), 1), (4, .invokevirtual 158, 3), (7, .istore 4, 2), (9, .iload 4, 2), (11, .iconst 1, 1), (12, .if_icmp .ne 13, 3), (15, .aload_n 2, 1), (16, .aload_n 0, 1), (17, .aload_n 2, 1), (18, .iload_n 3, 1), (19, .invokevirtual 218, 3), (22, .putfield 155, 3), (25, .iload 4, 2), (27, .ireturn, 1)]
def zk_3_17 : List (Nat × Instr × Nat) := zk_3_17_0
def zk_3_18_0 : List (Nat × Instr × Nat) := [(0, .aload_n 1, 1), (1, .dup, 1), (2, .getfield 173, 3), (5, .iconst 1, 1), (6, .iadd, 1), (7, .putfield 173, 3), (10, .aload_n 1, 1), (11, .getfield 173, 3), (14, .iload_n 2, 1), (15, .if_icmp .ge 7, 3), (18, .iconst 0, 1), (19, .goto 4, 3), (22, .iconst 1, 1), (23, .ireturn, 1)]
def zk_3_18 : List (Nat × Instr × Nat) := zk_3_18_0
def zk_3_19_0 : List (Nat × Instr × Nat) := [(0, .aload_n 2, 1), (1, .getfield 91, 3), (4, .getfield 95, 3), (7, .ifCond .eq 10, 3), (10, .aload_n 0, 1), (11, .iload_n 1, 1), (12, .iconst 3, 1), (13, .invokevirtual 176, 3), (16, .ireturn, 1), (17, .aload_n 0, 1), (18, .getfield 79, 3), (21, .bipush 20, 2), (23, .if_icmp .ge 36, 3), (26, .aload_n 0, 1), (27, .getfield 44, 3), (30, .aload_n 0, 1), (31, .getfield 79, 3), (34, .iload_n 1, 1), (35, .iastore, 1), (36, .aload_n 0, 1), (37, .getfield 47, 3), (40, .aload_n 0, 1), (41, .getfield 79, 3), (44, .aload_n 2, 1), (45, .getfield 155, 3), (48, .iastore, 1), (49, .aload_n 0, 1), (50, .dup, 1), (51, .getfield 79, 3), (54, .iconst 1, 1), (55, .iadd, 1), (56, .putfield 79, 3), (59, .aload_n 0, 1), (60, .getfield 53, 3), (63, .aload_n 0, 1), (64, .getfield 76, 3), (67, .iload_n 1, 1), (68, .iconst 5, 1), (69, .aload_n 2, 1), (70, .getfield 155, 3), (73, .invokevirtual 179, 3), (76, .iconst 1, 1), (77, .ireturn, 1)]
def zk_3_19 : List (Nat × Instr × Nat) := zk_3_19_0
def zk_3_20_0 : List (Nat × Instr × Nat) := [(0, .aload_n 0, 1), (1, .iload_n 2, 1), (2, .invokevirtual 203, 3), (5, .istore 4, 2), (7, .iload_n 3, 1), (8, .iconst (-1), 1), (9, .if_icmp .eq 7, 3), (12, .iconst 1, 1), (13, .goto 4, 3), (16, .iconst 0, 1), (17, .istore 5, 2), (19, .aload_n 0, 1), (20, .iload_n 1, 1), (21, .invokevirtual 238, 3), (24, .istore 6, 2), (26, .iload 6, 2), (28, .ifCond .eq 32, 3), (31, .iload 5, 2), (33, .ifCond .eq 27, 3), (36, .aload_n 0, 1), (37, .aload_n 0, 1), (38, .iload_n 1, 1), (39, .invokevirtual 108, 3), (42, .getfield 91, 3), (45, .iload 4, 2), (47, .invokevirtual 241, 3), (50, .ifCond .eq 10, 3), (53, .aload_n 0, 1), (54, .iload_n 1, 1), (55, .iconst 1, 1), (56, .invokevirtual 176, 3), (59, .ireturn, 1), (60, .aload_n 0, 1), (61, .iload 4, 2), (63, .iload_n 1, 1), (64, .iload 5, 2), (66, .invokevirtual 245, 3), (69, .istore 7, 2), (71, .iload 6, 2), (73, .ifCond .eq 40, 3), (76, .aload_n 0, 1), (77, .getfield 18, 3), (80, .bipush 8, 2), (82, .iaload, 1), (83, .ifCond .eq 30, 3), (86, .aload_n 0, 1), (87, .iload 7, 2), (89, .aload_n 0, 1), (90, .iload_n 1, 1), (91, .invokevirtual 108, 3), (94, .getfield 91, 3), (97, .getfield 249, 3), (100, .invokevirtual 252, 3), (103, .ifCond .eq 10, 3), (106, .aload_n 0, 1), (107, .iload_n 1, 1), (108, .iconst 0, 1), (109, .invokevirtual 176, 3), (112, .ireturn, 1), (113, .iconst 0, 1), (114, .istore 8, 2), (116, .iload 8, 2), (118, .aload_n 0, 1), (119, .getfield 67, 3), (122, .if_icmp .ge 27, 3), (125, .iload 7, 2), (127, .iload 8, 2), (129, .iushr, 1), (130, .iconst 1, 1), (131, .iand, 1), (132, .ifCond .eq 11, 3), (135, .aload_n 0, 1), (136, .iload 8, 2), (138, .iconst 0, 1), (139, .invokevirtual 176, 3), (142, .pop, 1), (143, .iinc 8 1, 3), (146, .goto (-30), 3), (149, .iload 6, 2), (151, .ifCond .eq 26, 3), (154, .iload 5, 2), (156, .ifCond .eq 21, 3), (159, .aload_n 0, 1), (160, .iload_n 1, 1), (161, .invokevirtual 108, 3), (164, .getfield 91, 3), (167, .iload_n 2, 1), (168, .iload_n 3, 1), (169, .iload 4, 2), (171, .invokevirtual 256, 3), (174, .goto 44, 3), (177, .iload 6, 2), (179, .ifCond .eq 24, 3), (182, .aload_n 0, 1), (183, .iload_n 1, 1), (184, .invokevirtual 108, 3), (187, .getfield 91, 3), (190, .dup, 1), (191, .getfield 206, 3), (194, .iload 4, 2)]
def zk_3_20_1 : List (Nat × Instr × Nat) := [(196, .ior, 1), (197, .putfield 206, 3), (200, .goto 18, 3), (203, .iload 5, 2), (205, .ifCond .eq 13, 3), (208, .aload_n 0, 1), (209, .getfield 9, 3), (212, .iload_n 2, 1), (213, .bipush 31, 2), (215, .iand, 1), (216, .iload_n 3, 1), (217, .iastore, 1), (218, .iconst 1, 1), (219, .ireturn, 1)]
def zk_3_20 : List (Nat × Instr × Nat) := zk_3_20_0 ++ (zk_3_20_1)
def zk_3_21_0 : List (Nat × Instr × Nat) := [(0, .aload_n 1, 1), (1, .getfield 259, 3), (4, .iload_n 2, 1), (5, .iand, 1), (6, .ifCond .ne 23, 3), (9, .aload_n 1, 1), (10, .getfield 259, 3), (13, .invokestatic 123, 3), (16, .aload_n 0, 1), (17, .getfield 18, 3), (20, .iconst 3, 1), (21, .iaload, 1), (22, .if_icmp .lt 7, 3), (25, .iconst 1, 1), (26, .goto 4, 3), (29, .iconst 0, 1), (30, .ireturn, 1)]
def zk_3_21 : List (Nat × Instr × Nat) := zk_3_21_0
def zk_3_22_0 : List (Nat × Instr × Nat) := [(0, .iconst 0, 1), (1, .istore 4, 2), (3, .iconst 0, 1), (4, .istore 5, 2), (6, .iload 5, 2), (8, .aload_n 0, 1), (9, .getfield 67, 3), (12, .if_icmp .ge 75, 3), (15, .aload_n 0, 1), (16, .iload 5, 2), (18, .invokevirtual 108, 3), (21, .getfield 91, 3), (24, .astore 6, 2), (26, .iload_n 3, 1), (27, .ifCond .eq 17, 3), (30, .aload 6, 2), (32, .getfield 206, 3), (35, .aload 6, 2), (37, .getfield 259, 3), (40, .ior, 1), (41, .goto 8, 3), (44, .aload 6, 2), (46, .getfield 259, 3), (49, .istore 7, 2), (51, .iload 5, 2), (53, .iload_n 2, 1), (54, .if_icmp .eq 27, 3), (57, .aload 6, 2), (59, .getfield 95, 3), (62, .ifCond .eq 19, 3), (65, .iload 7, 2), (67, .iload_n 1, 1), (68, .iand, 1), (69, .ifCond .eq 12, 3), (72, .iload 4, 2), (74, .iconst 1, 1), (75, .iload 5, 2), (77, .ishl, 1), (78, .ior, 1), (79, .istore 4, 2), (81, .iinc 5 1, 3), (84, .goto (-78), 3), (87, .iload 4, 2), (89, .ireturn, 1)]
def zk_3_22 : List (Nat × Instr × Nat) := zk_3_22_0
def zk_3_23_0 : List (Nat × Instr × Nat) := [(0, .iconst 0, 1), (1, .istore_n 3, 1), (2, .iload_n 3, 1), (3, .aload_n 0, 1), (4, .getfield 67, 3), (7, .if_icmp .ge 34, 3), (10, .iload_n 1, 1), (11, .iload_n 3, 1), (12, .iushr, 1), (13, .iconst 1, 1), (14, .iand, 1), (15, .ifCond .eq 20, 3), (18, .aload_n 0, 1), (19, .iload_n 3, 1), (20, .invokevirtual 108, 3), (23, .getfield 91, 3), (26, .getfield 249, 3), (29, .iload_n 2, 1), (30, .if_icmp .ge 5, 3), (33, .iconst 1, 1), (34, .ireturn, 1), (35, .iinc 3 1, 3), (38, .goto (-36), 3), (41, .iconst 0, 1), (42, .ireturn, 1)]
def zk_3_23 : List (Nat × Instr × Nat) := zk_3_23_0
def zk_3_24_0 : List (Nat × Instr × Nat) := [(0, .aload_n 0, 1), (1, .iload_n 1, 1), (2, .invokevirtual 108, 3), (5, .astore_n 3, 1), (6, .aload_n 3, 1), (7, .aload_n 3, 1), (8, .getfield 91, 3), (11, .getfield 262, 3), (14, .putfield 133, 3), (17, .aload_n 3, 1), (18, .aload_n 3, 1), (19, .getfield 91, 3), (22, .getfield 265, 3), (25, .putfield 155, 3), (28, .aload_n 3, 1), (29, .iconst 0, 1), (30, .putfield 173, 3), (33, .aload_n 3, 1), (34, .dup, 1), (35, .getfield 190, 3), (38, .iconst 1, 1), (39, .iadd, 1), (40, .putfield 190, 3), (43, .iload_n 2, 1), (44, .ifCond .lt 18, 3), (47, .iload_n 2, 1), (48, .iconst 5, 1), (49, .if_icmp .ge 13, 3), (52, .aload_n 3, 1), (53, .getfield 268, 3), (56, .iload_n 2, 1), (57, .dup2, 1), (58, .iaload, 1), (59, .iconst 1, 1), (60, .iadd, 1), (61, .iastore, 1), (62, .aload_n 0, 1), (63, .aload_n 3, 1), (64, .getfield 91, 3), (67, .getfield 271, 3), (70, .iconst 0, 1), (71, .iaload, 1), (72, .invokevirtual 183, 3), (75, .aload_n 0, 1), (76, .getfield 18, 3), (79, .bipush 6, 2), (81, .iaload, 1), (82, .invokevirtual 274, 3), (85, .aload_n 3, 1), (86, .getfield 91, 3), (89, .invokevirtual 231, 3), (92, .aload_n 0, 1), (93, .getfield 53, 3), (96, .aload_n 0, 1), (97, .getfield 76, 3), (100, .iload_n 1, 1), (101, .iconst 2, 1), (102, .iload_n 2, 1), (103, .invokevirtual 179, 3), (106, .iconst (-1), 1), (107, .ireturn, 1)]
def zk_3_24 : List (Nat × Instr × Nat) := zk_3_24_0
def zk_3_25_0 : List (Nat × Instr × Nat) := [(0, .iconst 0, 1), (1, .istore_n 3, 1), (2, .iconst 0, 1), (3, .istore 4, 2), (5, .iload 4, 2), (7, .aload_n 1, 1), (8, .getfield 277, 3), (11, .if_icmp .ge 69, 3), (14, .aload_n 1, 1), (15, .iload 4, 2), (17, .invokevirtual 139, 3), (20, .iload_n 2, 1), (21, .if_icmp .ne 53, 3), (24, .aload_n 1, 1), (25, .iload 4, 2), (27, .invokevirtual 136, 3), (30, .istore 5, 2), (32, .iload_n 2, 1), (33, .ifCond .eq 8, 3), (36, .iload_n 2, 1), (37, .iconst 1, 1), (38, .if_icmp .ne 7, 3), (41, .iconst 1, 1), (42, .goto 4, 3), (45, .iconst 0, 1), (46, .istore 6, 2), (48, .iload_n 3, 1), (49, .aload_n 0, 1), (50, .iload 6, 2), (52, .ifCond .eq 15, 3), (55, .aload_n 0, 1), (56, .iload 5, 2), (58, .invokevirtual 183, 3), (61, .getfield 187, 3), (64, .goto 5, 3), (67, .iload 5, 2), (69, .invokevirtual 203, 3), (72, .ior, 1), (73, .istore_n 3, 1), (74, .iinc 4 1, 3), (77, .goto (-72), 3), (80, .iload_n 3, 1), (81, .ireturn, 1)]
def zk_3_25 : List (Nat × Instr × Nat) := zk_3_25_0
def zk_3_26_0 : List (Nat × Instr × Nat) := [(0, .iconst 0, 1), (1, .istore_n 2, 1), (2, .iconst 0, 1), (3, .istore_n 3, 1), (4, .iload_n 3, 1), (5, .aload_n 0, 1), (6, .getfield 67, 3), (9, .if_icmp .ge 27, 3), (12, .aload_n 0, 1), (13, .iload_n 3, 1), (14, .invokevirtual 108, 3), (17, .getfield 91, 3), (20, .iload_n 1, 1), (21, .invokevirtual 215, 3), (24, .ifCond .eq 6, 3), (27, .iinc 2 1, 3), (30, .iinc 3 1, 3), (33, .goto (-29), 3), (36, .iload_n 2, 1), (37, .ireturn, 1)]
def zk_3_26 : List (Nat × Instr × Nat) := zk_3_26_0
def zk_3_27_0 : List (Nat × Instr × Nat) := [(0, .iconst 0, 1), (1, .istore_n 1, 1), (2, .iconst 0, 1), (3, .istore_n 2, 1), (4, .iload_n 2, 1), (5, .aload_n 0, 1), (6, .getfield 67, 3), (9, .if_icmp .ge 30, 3), (12, .iload_n 1, 1), (13, .aload_n 0, 1), (14, .iload_n 2, 1), (15, .invokevirtual 108, 3), (18, .invokevirtual 116, 3), (21, .ifCond .eq 9, 3), (24, .iconst 1, 1), (25, .iload_n 2, 1), (26, .ishl, 1), (27, .goto 4, 3), (30, .iconst 0, 1), (31, .ior, 1), (32, .istore_n 1, 1), (33, .iinc 2 1, 3), (36, .goto (-32), 3), (39, .iload_n 1, 1), (40, .ireturn, 1)]
def zk_3_27 : List (Nat × Instr × Nat) := zk_3_27_0
def zk_3_28_0 : List (Nat × Instr × Nat) := [(0, .iconst 0, 1), (1, .istore_n 1, 1), (2, .iconst 0, 1), (3, .istore_n 2, 1), (4, .iload_n 2, 1), (5, .aload_n 0, 1), (6, .getfield 67, 3), (9, .if_icmp .ge 27, 3), (12, .iload_n 1, 1), (13, .aload_n 0, 1), (14, .iload_n 2, 1), (15, .invokevirtual 238, 3), (18, .ifCond .eq 9, 3), (21, .iconst 1, 1), (22, .iload_n 2, 1), (23, .ishl, 1), (24, .goto 4, 3), (27, .iconst 0, 1), (28, .ior, 1), (29, .istore_n 1, 1), (30, .iinc 2 1, 3), (33, .goto (-29), 3), (36, .iload_n 1, 1), (37, .ireturn, 1)]
def zk_3_28 : List (Nat × Instr × Nat) := zk_3_28_0
def zk_3_29_0 : List (Nat × Instr × Nat) := [(0, .iconst 0, 1), (1, .istore_n 1, 1), (2, .iconst 0, 1), (3, .istore_n 2, 1), (4, .iload_n 2, 1), (5, .iconst 4, 1), (6, .if_icmp .ge 38, 3), (9, .iload_n 1, 1), (10, .aload_n 0, 1), (11, .getfield 9, 3), (14, .aload_n 0, 1), (15, .iload_n 2, 1), (16, .invokevirtual 183, 3), (19, .getfield 187, 3), (22, .bipush 31, 2), (24, .iand, 1), (25, .iaload, 1), (26, .ifCond .eq 9, 3), (29, .iconst 1, 1), (30, .iload_n 2, 1), (31, .ishl, 1), (32, .goto 4, 3), (35, .iconst 0, 1), (36, .ior, 1), (37, .istore_n 1, 1), (38, .iinc 2 1, 3), (41, .goto (-37), 3), (44, .iload_n 1, 1), (45, .ireturn, 1)]
def zk_3_29 : List (Nat × Instr × Nat) := zk_3_29_0
def zk_3_30_0 : List (Nat × Instr × Nat) := [(0, .iconst 0, 1), (1, .istore_n 1, 1), (2, .iconst 0, 1), (3, .istore_n 2, 1), (4, .iload_n 2, 1), (5, .aload_n 0, 1), (6, .getfield 67, 3), (9, .if_icmp .ge 20, 3), (12, .iload_n 1, 1), (13, .aload_n 0, 1), (14, .iload_n 2, 1), (15, .invokevirtual 108, 3), (18, .getfield 234, 3), (21, .iadd, 1), (22, .istore_n 1, 1), (23, .iinc 2 1, 3), (26, .goto (-22), 3), (29, .iload_n 1, 1), (30, .ireturn, 1)]
def zk_3_30 : List (Nat × Instr × Nat) := zk_3_30_0
def zk_3_31_0 : List (Nat × Instr × Nat) := [(0, .iconst 0, 1), (1, .istore_n 3, 1), (2, .iload_n 3, 1), (3, .iconst 4, 1), (4, .if_icmp .ge 28, 3), (7, .iload_n 3, 1), (8, .iload_n 1, 1), (9, .if_icmp .eq 17, 3), (12, .aload_n 0, 1), (13, .iload_n 3, 1), (14, .invokevirtual 183, 3), (17, .getfield 187, 3), (20, .iload_n 2, 1), (21, .if_icmp .ne 5, 3), (24, .iconst 1, 1), (25, .ireturn, 1), (26, .iinc 3 1, 3), (29, .goto (-27), 3), (32, .iconst 0, 1), (33, .ireturn, 1)]
def zk_3_31 : List (Nat × Instr × Nat) := zk_3_31_0
def zmc_3 : List zMt := [(yX3_init, cX3_init, 1, (none : Option FieldType), [], zk_3_0),
  (yX3_copyFrom, cX3_copyFrom, 3, (none : Option FieldType), [], zk_3_1),
  (yX3_strandAt, cX3_strandAt, 2, (some (FieldType.object "ElidedLocks$Strand")), [], zk_3_2),
  (yX3_lockAt, cX3_lockAt, 2, (some (FieldType.object "ElidedLocks$Lock")), [], zk_3_3),
  (yX3_blockBit, cX3_blockBit, 3, (some FieldType.int), [], zk_3_4),
  (yX3_seenBy, cX3_seenBy, 4, (some FieldType.int), [], zk_3_5),
  (yX3_isGuessing, cX3_isGuessing, 2, (some FieldType.boolean), [], zk_3_6),
  (yX3_isDone, cX3_isDone, 2, (some FieldType.boolean), [], zk_3_7),
  (yX3_nextByTurn, cX3_nextByTurn, 3, (some FieldType.int), [], zk_3_8),
  (yX3_nextByDraw, cX3_nextByDraw, 4, (some FieldType.int), [], zk_3_9),
  (yX3_draw, cX3_draw, 2, (some FieldType.int), [], zk_3_10),
  (yX3_takeStep, cX3_takeStep, 5, (some FieldType.int), [], zk_3_11),
  (yX3_moveOn, cX3_moveOn, 3, (some FieldType.int), [], zk_3_12),
  (yX3_takePlainly, cX3_takePlainly, 5, (some FieldType.int), [], zk_3_13),
  (yX3_takeGuessing, cX3_takeGuessing, 5, (some FieldType.int), [], zk_3_14),
  (yX3_dropLock, cX3_dropLock, 5, (some FieldType.int), [], zk_3_15),
  (yX3_keep, cX3_keep, 5, (none : Option FieldType), [], zk_3_16),
  (yX3_getWord, cX3_getWord, 5, (some FieldType.int), [], zk_3_17),
  (yX3_goOnWorking, cX3_goOnWorking, 3, (some FieldType.int), [], zk_3_18),
  (yX3_putOut, cX3_putOut, 3, (some FieldType.int), [], zk_3_19),
  (yX3_reach, cX3_reach, 9, (some FieldType.int), [], zk_3_20),
  (yX3_isFull, cX3_isFull, 3, (some FieldType.boolean), [], zk_3_21),
  (yX3_holdersOf, cX3_holdersOf, 8, (some FieldType.int), [], zk_3_22),
  (yX3_anyBefore, cX3_anyBefore, 4, (some FieldType.boolean), [], zk_3_23),
  (yX3_fall, cX3_fall, 4, (some FieldType.int), [], zk_3_24),
  (yX3_blocksOf, cX3_blocksOf, 7, (some FieldType.int), [], zk_3_25),
  (yX3_leavingOut, cX3_leavingOut, 4, (some FieldType.int), [], zk_3_26),
  (yX3_doneBits, cX3_doneBits, 3, (some FieldType.int), [], zk_3_27),
  (yX3_guessingBits, cX3_guessingBits, 3, (some FieldType.int), [], zk_3_28),
  (yX3_lockBits, cX3_lockBits, 3, (some FieldType.int), [], zk_3_29),
  (yX3_allKept, cX3_allKept, 3, (some FieldType.int), [], zk_3_30),
  (yX3_isWordOfOther, cX3_isWordOfOther, 4, (some FieldType.boolean), [], zk_3_31)]
def zk_4_0_0 : List (Nat × Instr × Nat) := [(0, .aload_n 0, 1), (1, .invokespecial 3, 3), (4, .aload_n 0, 1), (5, .bipush 32, 2), (7, .newarray .int, 2), (9, .putfield 9, 3), (12, .aload_n 0, 1), (13, .sipush 320, 3), (16, .newarray .int, 2), (18, .putfield 15, 3), (21, .aload_n 0, 1), (22, .iconst 4, 1), (23, .newarray .int, 2), (25, .putfield 18, 3), (28, .aload_n 0, 1), (29, .iconst 4, 1), (30, .newarray .int, 2), (32, .putfield 21, 3), (35, .aload_n 0, 1), (36, .bipush 10, 2), (38, .newarray .int, 2), (40, .putfield 24, 3), (43, .aload_n 0, 1), (44, .aload_n 1, 1), (45, .putfield 27, 3), (48, .return_, 1)]
def zk_4_0 : List (Nat × Instr × Nat) := zk_4_0_0
def zk_4_1_0 : List (Nat × Instr × Nat) := [(0, .aload_n 0, 1), (1, .iconst 0, 1), (2, .putfield 31, 3), (5, .return_, 1)]
def zk_4_1 : List (Nat × Instr × Nat) := zk_4_1_0
def zk_4_2_0 : List (Nat × Instr × Nat) := [(0, .aload_n 0, 1), (1, .getfield 35, 3), (4, .ifCond .eq 30, 3), (7, .iload_n 1, 1), (8, .ifCond .lt 26, 3), (11, .iload_n 1, 1), (12, .aload_n 0, 1), (13, .getfield 38, 3), (16, .if_icmp .ge 18, 3), (19, .iload_n 1, 1), (20, .bipush 10, 2), (22, .if_icmp .ge 12, 3), (25, .aload_n 0, 1), (26, .getfield 24, 3), (29, .iload_n 1, 1), (30, .iaload, 1), (31, .goto 4, 3), (34, .iconst (-1), 1), (35, .ireturn, 1)]
def zk_4_2 : List (Nat × Instr × Nat) := zk_4_2_0
def zk_4_3_0 : List (Nat × Instr × Nat) := [(0, .aload_n 0, 1), (1, .iconst 1, 1), (2, .putfield 31, 3), (5, .aload_n 0, 1), (6, .iconst 0, 1), (7, .putfield 35, 3), (10, .aload_n 0, 1), (11, .iconst 0, 1), (12, .putfield 38, 3), (15, .iconst 0, 1), (16, .istore_n 1, 1), (17, .iload_n 1, 1), (18, .aload_n 0, 1), (19, .getfield 27, 3), (22, .getfield 42, 3), (25, .if_icmp .ge 48, 3), (28, .iload_n 1, 1), (29, .iconst 4, 1), (30, .if_icmp .ge 43, 3), (33, .aload_n 0, 1), (34, .dup, 1), (35, .getfield 38, 3), (38, .aload_n 0, 1), (39, .getfield 27, 3), (42, .iload_n 1, 1), (43, .invokevirtual 47, 3), (46, .invokevirtual 51, 3), (49, .iadd, 1), (50, .putfield 38, 3), (53, .aload_n 0, 1), (54, .getfield 18, 3), (57, .iload_n 1, 1), (58, .iconst 0, 1), (59, .iastore, 1), (60, .aload_n 0, 1), (61, .getfield 21, 3), (64, .iload_n 1, 1), (65, .iconst 0, 1), (66, .iastore, 1), (67, .iinc 1 1, 3), (70, .goto (-53), 3), (73, .aload_n 0, 1), (74, .getfield 38, 3), (77, .bipush 10, 2), (79, .if_icmp .gt 14, 3), (82, .aload_n 0, 1), (83, .getfield 27, 3), (86, .iconst (-1), 1), (87, .invokevirtual 57, 3), (90, .ifCond .ne 4, 3), (93, .return_, 1), (94, .aload_n 0, 1), (95, .iconst 0, 1), (96, .putfield 61, 3), (99, .aload_n 0, 1), (100, .getfield 27, 3), (103, .getfield 64, 3), (106, .iconst 0, 1), (107, .aload_n 0, 1), (108, .getfield 9, 3), (111, .iconst 0, 1), (112, .bipush 32, 2), (114, .invokestatic 67, 3), (117, .aload_n 0, 1), (118, .aload_n 0, 1), (119, .iconst 0, 1), (120, .invokevirtual 73, 3), (123, .putfield 35, 3), (126, .return_, 1)]
def zk_4_3 : List (Nat × Instr × Nat) := zk_4_3_0
def zk_4_4_0 : List (Nat × Instr × Nat) := [(0, .iload_n 1, 1), (1, .ifCond .lt 17, 3), (4, .iload_n 1, 1), (5, .aload_n 0, 1), (6, .getfield 38, 3), (9, .if_icmp .ge 9, 3), (12, .iload_n 1, 1), (13, .bipush 10, 2), (15, .if_icmp .lt 8, 3), (18, .aload_n 0, 1), (19, .invokevirtual 76, 3), (22, .ireturn, 1), (23, .aload_n 0, 1), (24, .getfield 9, 3), (27, .iconst 0, 1), (28, .aload_n 0, 1), (29, .getfield 15, 3), (32, .iload_n 1, 1), (33, .bipush 32, 2), (35, .imul, 1), (36, .bipush 32, 2), (38, .invokestatic 67, 3), (41, .aload_n 0, 1), (42, .getfield 61, 3), (45, .istore_n 2, 1), (46, .iconst 0, 1), (47, .istore_n 3, 1), (48, .iload_n 3, 1), (49, .aload_n 0, 1), (50, .getfield 27, 3), (53, .getfield 42, 3), (56, .if_icmp .ge 115, 3), (59, .iload_n 3, 1), (60, .iconst 4, 1), (61, .if_icmp .ge 110, 3), (64, .aload_n 0, 1), (65, .getfield 18, 3), (68, .iload_n 3, 1), (69, .iaload, 1), (70, .istore 4, 2), (72, .aload_n 0, 1), (73, .getfield 21, 3), (76, .iload_n 3, 1), (77, .iaload, 1), (78, .istore 5, 2), (80, .iload 4, 2), (82, .aload_n 0, 1), (83, .getfield 27, 3), (86, .iload_n 3, 1), (87, .invokevirtual 47, 3), (90, .getfield 80, 3), (93, .if_icmp .lt 6, 3), (96, .goto 69, 3), (99, .aload_n 0, 1), (100, .getfield 24, 3), (103, .iload_n 1, 1), (104, .iload_n 3, 1), (105, .iastore, 1), (106, .aload_n 0, 1), (107, .iload_n 3, 1), (108, .invokevirtual 83, 3), (111, .ifCond .eq 15, 3), (114, .aload_n 0, 1), (115, .iload_n 1, 1), (116, .iconst 1, 1), (117, .iadd, 1), (118, .invokevirtual 73, 3), (121, .ifCond .eq 5, 3), (124, .iconst 1, 1), (125, .ireturn, 1), (126, .aload_n 0, 1), (127, .getfield 15, 3), (130, .iload_n 1, 1), (131, .bipush 32, 2), (133, .imul, 1), (134, .aload_n 0, 1), (135, .getfield 9, 3), (138, .iconst 0, 1), (139, .bipush 32, 2), (141, .invokestatic 67, 3), (144, .aload_n 0, 1), (145, .getfield 18, 3), (148, .iload_n 3, 1), (149, .iload 4, 2), (151, .iastore, 1), (152, .aload_n 0, 1), (153, .getfield 21, 3), (156, .iload_n 3, 1), (157, .iload 5, 2), (159, .iastore, 1), (160, .aload_n 0, 1), (161, .iload_n 2, 1), (162, .putfield 61, 3), (165, .iinc 3 1, 3), (168, .goto (-120), 3), (171, .iconst 0, 1), (172, .ireturn, 1)]
def zk_4_4 : List (Nat × Instr × Nat) := zk_4_4_0
def zk_4_5_0 : List (Nat × Instr × Nat) := [(0, .iload_n 1, 1), (1, .iconst 3, 1), (2, .iand, 1), (3, .istore_n 2, 1), (4, .aload_n 0, 1), (5, .getfield 27, 3), (8, .iload_n 2, 1), (9, .invokevirtual 47, 3), (12, .astore_n 3, 1), (13, .aload_n 3, 1), (14, .aload_n 0, 1), (15, .getfield 18, 3), (18, .iload_n 2, 1), (19, .iaload, 1), (20, .invokevirtual 86, 3), (23, .istore 4, 2), (25, .aload_n 0, 1), (26, .getfield 18, 3), (29, .iload_n 2, 1), (30, .iaload, 1), (31, .istore 5, 2), (33, .iload 5, 2), (35, .iload 4, 2), (37, .if_icmp .ge 31, 3), (40, .aload_n 0, 1), (41, .iload_n 2, 1), (42, .aload_n 3, 1), (43, .iload 5, 2), (45, .invokevirtual 90, 3), (48, .aload_n 3, 1), (49, .iload 5, 2), (51, .invokevirtual 93, 3), (54, .invokevirtual 96, 3), (57, .ifCond .ne 5, 3), (60, .iconst 0, 1), (61, .ireturn, 1), (62, .iinc 5 1, 3), (65, .goto (-32), 3), (68, .aload_n 0, 1), (69, .getfield 18, 3), (72, .iload_n 2, 1), (73, .iload 4, 2), (75, .iastore, 1), (76, .iconst 1, 1), (77, .ireturn, 1)]
def zk_4_5 : List (Nat × Instr × Nat) := zk_4_5_0
def zk_4_6_0 : List (Nat × Instr × Nat) := [(0, .iload_n 1, 1), (1, .iconst 3, 1), (2, .iand, 1), (3, .istore 4, 2), (5, .iload_n 2, 1), (6, .ifCond .eq 8, 3), (9, .iload_n 2, 1), (10, .iconst 1, 1), (11, .if_icmp .ne 17, 3), (14, .aload_n 0, 1), (15, .getfield 27, 3), (18, .iload_n 3, 1), (19, .invokevirtual 100, 3), (22, .getfield 104, 3), (25, .goto 4, 3), (28, .iload_n 3, 1), (29, .bipush 31, 2), (31, .iand, 1), (32, .istore 5, 2), (34, .iload_n 2, 1), (35, .tableswitch 155 0 7 #[45, 67, 77, 93, 109, 119, 155, 141], 45), (80, .aload_n 0, 1), (81, .getfield 9, 3), (84, .iload 5, 2), (86, .iaload, 1), (87, .ifCond .eq 5, 3), (90, .iconst 0, 1), (91, .ireturn, 1), (92, .aload_n 0, 1), (93, .getfield 9, 3), (96, .iload 5, 2), (98, .iconst 1, 1), (99, .iastore, 1), (100, .iconst 1, 1), (101, .ireturn, 1), (102, .aload_n 0, 1), (103, .getfield 9, 3), (106, .iload 5, 2), (108, .iconst 0, 1), (109, .iastore, 1), (110, .iconst 1, 1), (111, .ireturn, 1), (112, .aload_n 0, 1), (113, .getfield 21, 3), (116, .iload 4, 2), (118, .aload_n 0, 1), (119, .getfield 9, 3), (122, .iload 5, 2), (124, .iaload, 1), (125, .iastore, 1), (126, .iconst 1, 1), (127, .ireturn, 1), (128, .aload_n 0, 1), (129, .getfield 9, 3), (132, .iload 5, 2), (134, .aload_n 0, 1), (135, .getfield 21, 3), (138, .iload 4, 2), (140, .iaload, 1), (141, .iastore, 1), (142, .iconst 1, 1), (143, .ireturn, 1), (144, .aload_n 0, 1), (145, .getfield 21, 3), (148, .iload 4, 2), (150, .iload_n 3, 1), (151, .iastore, 1), (152, .iconst 1, 1), (153, .ireturn, 1), (154, .aload_n 0, 1), (155, .getfield 21, 3), (158, .iload 4, 2), (160, .aload_n 0, 1), (161, .getfield 21, 3), (164, .iload 4, 2), (166, .iaload, 1), (167, .iload_n 3, 1), (168, .iadd, 1), (169, .sipush 10000, 3), (172, .irem, 1), (173, .iastore, 1), (174, .iconst 1, 1), (175, .ireturn, 1), (176, .aload_n 0, 1), (177, .iload 4, 2), (179, .aload_n 0, 1), (180, .getfield 21, 3), (183, .iload 4, 2), (185, .iaload, 1), (186, .invokevirtual 109, 3), (189, .ireturn, 1), (190, .iconst 1, 1), (191, .ireturn, 1)]
def zk_4_6 : List (Nat × Instr × Nat) := zk_4_6_0
def zk_4_7_0 : List (Nat × Instr × Nat) := [(0, .aload_n 0, 1), (1, .getfield 61, 3), (4, .ifCond .lt 12, 3), (7, .aload_n 0, 1), (8, .getfield 61, 3), (11, .bipush 20, 2), (13, .if_icmp .lt 5, 3), (16, .iconst 1, 1), (17, .ireturn, 1), (18, .aload_n 0, 1), (19, .getfield 61, 3), (22, .aload_n 0, 1), (23, .getfield 27, 3), (26, .getfield 113, 3), (29, .if_icmp .ge 35, 3), (32, .aload_n 0, 1), (33, .getfield 27, 3), (36, .getfield 114, 3), (39, .aload_n 0, 1), (40, .getfield 61, 3), (43, .iaload, 1), (44, .iload_n 1, 1), (45, .if_icmp .ne 19, 3), (48, .aload_n 0, 1), (49, .getfield 27, 3), (52, .getfield 117, 3), (55, .aload_n 0, 1), (56, .getfield 61, 3), (59, .iaload, 1), (60, .iload_n 2, 1), (61, .if_icmp .eq 5, 3), (64, .iconst 0, 1), (65, .ireturn, 1), (66, .aload_n 0, 1), (67, .dup, 1), (68, .getfield 61, 3), (71, .iconst 1, 1), (72, .iadd, 1), (73, .putfield 61, 3), (76, .iconst 1, 1), (77, .ireturn, 1)]
def zk_4_7 : List (Nat × Instr × Nat) := zk_4_7_0
def zk_4_8_0 : List (Nat × Instr × Nat) := [(0, .aload_n 0, 1), (1, .getfield 61, 3), (4, .aload_n 0, 1), (5, .getfield 27, 3), (8, .getfield 113, 3), (11, .if_icmp .eq 5, 3), (14, .iconst 0, 1), (15, .ireturn, 1), (16, .iconst 0, 1), (17, .istore_n 1, 1), (18, .iload_n 1, 1), (19, .bipush 32, 2), (21, .if_icmp .ge 29, 3), (24, .aload_n 0, 1), (25, .getfield 9, 3), (28, .iload_n 1, 1), (29, .iaload, 1), (30, .aload_n 0, 1), (31, .getfield 27, 3), (34, .getfield 120, 3), (37, .iload_n 1, 1), (38, .iaload, 1), (39, .if_icmp .eq 5, 3), (42, .iconst 0, 1), (43, .ireturn, 1), (44, .iinc 1 1, 3), (47, .goto (-29), 3), (50, .iconst 1, 1), (51, .ireturn, 1)]
def zk_4_8 : List (Nat × Instr × Nat) := zk_4_8_0
def zmc_4 : List zMt := [(yX4_init, cX4_init, 2, (none : Option FieldType), [], zk_4_0),
  (yX4_forget, cX4_forget, 1, (none : Option FieldType), [], zk_4_1),
  (yX4_threadOf, cX4_threadOf, 2, (some FieldType.int), [], zk_4_2),
  (yX4_search, cX4_search, 2, (none : Option FieldType), [], zk_4_3),
  (yX4_placeFrom, cX4_placeFrom, 6, (some FieldType.boolean), [], zk_4_4),
  (yX4_playPart, cX4_playPart, 6, (some FieldType.boolean), [], zk_4_5),
  (yX4_playDeed, cX4_playDeed, 6, (some FieldType.boolean), [], zk_4_6),
  (yX4_playOutput, cX4_playOutput, 3, (some FieldType.boolean), [], zk_4_7),
  (yX4_cameOut, cX4_cameOut, 2, (some FieldType.boolean), [], zk_4_8)]
def zk_5_0_0 : List (Nat × Instr × Nat) := [(0, .aload_n 0, 1), (1, .invokespecial 3, 3), (4, .aload_n 0, 1), (5, .aload_n 1, 1), (6, .putfield 9, 3), (9, .aload_n 0, 1), (10, .aload_n 2, 1), (11, .putfield 15, 3), (14, .return_, 1)]
def zk_5_0 : List (Nat × Instr × Nat) := zk_5_0_0
def zk_5_1_0 : List (Nat × Instr × Nat) := [(0, .aload_n 0, 1), (1, .iload_n 1, 1), (2, .aload_n 0, 1), (3, .getfield 9, 3), (6, .arraylength, 1), (7, .invokestatic 19, 3), (10, .putfield 25, 3), (13, .aload_n 0, 1), (14, .iconst 0, 1), (15, .putfield 29, 3), (18, .aload_n 0, 1), (19, .invokevirtual 32, 3), (22, .aload_n 0, 1), (23, .getfield 35, 3), (26, .aload_n 0, 1), (27, .getfield 25, 3), (30, .if_icmp .lt 5, 3), (33, .iconst (-1), 1), (34, .ireturn, 1), (35, .iconst 0, 1), (36, .istore_n 2, 1), (37, .iload_n 2, 1), (38, .bipush 14, 2), (40, .if_icmp .ge 52, 3), (43, .aload_n 0, 1), (44, .invokevirtual 38, 3), (47, .ifCond .ne 8, 3), (50, .aload_n 0, 1), (51, .getfield 35, 3), (54, .ireturn, 1), (55, .aload_n 0, 1), (56, .invokevirtual 32, 3), (59, .aload_n 0, 1), (60, .getfield 35, 3), (63, .aload_n 0, 1), (64, .getfield 25, 3), (67, .if_icmp .lt 5, 3), (70, .iconst (-1), 1), (71, .ireturn, 1), (72, .aload_n 0, 1), (73, .bipush 59, 2), (75, .invokevirtual 42, 3), (78, .ifCond .ne 8, 3), (81, .aload_n 0, 1), (82, .getfield 35, 3), (85, .ireturn, 1), (86, .iinc 2 1, 3), (89, .goto (-52), 3), (92, .aload_n 0, 1), (93, .invokevirtual 32, 3), (96, .aload_n 0, 1), (97, .getfield 35, 3), (100, .ireturn, 1)]
def zk_5_1 : List (Nat × Instr × Nat) := zk_5_1_0
def zk_5_2_0 : List (Nat × Instr × Nat) := [(0, .aload_n 0, 1), (1, .ldc 46, 2), (3, .invokevirtual 48, 3), (6, .istore_n 1, 1), (7, .iload_n 1, 1), (8, .tableswitch 115 (-1) 12 #[72, 115, 115, 115, 115, 115, 115, 115, 115, 74, 79, 84, 97, 110], 72), (80, .iconst 0, 1), (81, .ireturn, 1), (82, .aload_n 0, 1), (83, .invokevirtual 52, 3), (86, .ireturn, 1), (87, .aload_n 0, 1), (88, .invokevirtual 55, 3), (91, .ireturn, 1), (92, .aload_n 0, 1), (93, .getfield 15, 3), (96, .getfield 58, 3), (99, .bipush 8, 2), (101, .iconst 1, 1), (102, .iastore, 1), (103, .iconst 1, 1), (104, .ireturn, 1), (105, .aload_n 0, 1), (106, .getfield 15, 3), (109, .getfield 58, 3), (112, .bipush 8, 2), (114, .iconst 0, 1), (115, .iastore, 1), (116, .iconst 1, 1), (117, .ireturn, 1), (118, .aload_n 0, 1), (119, .invokevirtual 64, 3), (122, .ireturn, 1), (123, .iload_n 1, 1), (124, .bipush 8, 2), (126, .if_icmp .ge 11, 3), (129, .aload_n 0, 1), (130, .iload_n 1, 1), (131, .invokevirtual 67, 3), (134, .goto 7, 3), (137, .aload_n 0, 1), (138, .invokevirtual 71, 3), (141, .ireturn, 1)]
def zk_5_2 : List (Nat × Instr × Nat) := zk_5_2_0
def zk_5_3_0 : List (Nat × Instr × Nat) := [(0, .iload_n 1, 1), (1, .ifCond .lt 23, 3), (4, .iload_n 1, 1), (5, .bipush 8, 2), (7, .if_icmp .gt 17, 3), (10, .iload_n 1, 1), (11, .ifCond .ne 15, 3), (14, .aload_n 0, 1), (15, .getfield 15, 3), (18, .getfield 74, 3), (21, .ifCond .le 5, 3), (24, .iconst 0, 1), (25, .ireturn, 1), (26, .aload_n 0, 1), (27, .getstatic 77, 3), (30, .iload_n 1, 1), (31, .iaload, 1), (32, .getstatic 80, 3), (35, .iload_n 1, 1), (36, .iaload, 1), (37, .invokevirtual 83, 3), (40, .istore_n 2, 1), (41, .iload_n 2, 1), (42, .iconst (-1), 1), (43, .if_icmp .ne 5, 3), (46, .iconst 0, 1), (47, .ireturn, 1), (48, .aload_n 0, 1), (49, .getfield 15, 3), (52, .getfield 58, 3), (55, .iload_n 1, 1), (56, .iload_n 2, 1), (57, .iastore, 1), (58, .iconst 1, 1), (59, .ireturn, 1)]
def zk_5_3 : List (Nat × Instr × Nat) := zk_5_3_0
def zk_5_4_0 : List (Nat × Instr × Nat) := [(0, .aload_n 0, 1), (1, .iconst 0, 1), (2, .bipush 15, 2), (4, .invokevirtual 83, 3), (7, .istore_n 1, 1), (8, .iload_n 1, 1), (9, .iconst (-1), 1), (10, .if_icmp .ne 5, 3), (13, .iconst 0, 1), (14, .ireturn, 1), (15, .iconst 0, 1), (16, .istore_n 2, 1), (17, .iload_n 2, 1), (18, .iconst 4, 1), (19, .if_icmp .ge 21, 3), (22, .aload_n 0, 1), (23, .getfield 15, 3), (26, .iload_n 2, 1), (27, .invokevirtual 86, 3), (30, .iload_n 1, 1), (31, .putfield 90, 3), (34, .iinc 2 1, 3), (37, .goto (-20), 3), (40, .iconst 1, 1), (41, .ireturn, 1)]
def zk_5_4 : List (Nat × Instr × Nat) := zk_5_4_0
def zk_5_5_0 : List (Nat × Instr × Nat) := [(0, .aload_n 0, 1), (1, .iconst 0, 1), (2, .bipush 31, 2), (4, .invokevirtual 83, 3), (7, .istore_n 1, 1), (8, .iload_n 1, 1), (9, .iconst (-1), 1), (10, .if_icmp .ne 5, 3), (13, .iconst 0, 1), (14, .ireturn, 1), (15, .aload_n 0, 1), (16, .iconst 0, 1), (17, .sipush 9999, 3), (20, .invokevirtual 83, 3), (23, .istore_n 2, 1), (24, .iload_n 2, 1), (25, .iconst (-1), 1), (26, .if_icmp .ne 5, 3), (29, .iconst 0, 1), (30, .ireturn, 1), (31, .aload_n 0, 1), (32, .getfield 15, 3), (35, .getfield 95, 3), (38, .iload_n 1, 1), (39, .bipush 31, 2), (41, .iand, 1), (42, .iload_n 2, 1), (43, .iastore, 1), (44, .aload_n 0, 1), (45, .getfield 15, 3), (48, .getfield 98, 3), (51, .iload_n 1, 1), (52, .bipush 31, 2), (54, .iand, 1), (55, .iload_n 2, 1), (56, .iastore, 1), (57, .iconst 1, 1), (58, .ireturn, 1)]
def zk_5_5 : List (Nat × Instr × Nat) := zk_5_5_0
def zk_5_6_0 : List (Nat × Instr × Nat) := [(0, .aload_n 0, 1), (1, .iconst 0, 1), (2, .iconst 3, 1), (3, .invokevirtual 83, 3), (6, .istore_n 1, 1), (7, .iload_n 1, 1), (8, .iconst (-1), 1), (9, .if_icmp .eq 13, 3), (12, .aload_n 0, 1), (13, .ldc 101, 2), (15, .invokevirtual 48, 3), (18, .iconst (-1), 1), (19, .if_icmp .ne 5, 3), (22, .iconst 0, 1), (23, .ireturn, 1), (24, .aload_n 0, 1), (25, .iconst 0, 1), (26, .bipush 31, 2), (28, .invokevirtual 83, 3), (31, .istore_n 2, 1), (32, .iload_n 2, 1), (33, .iconst (-1), 1), (34, .if_icmp .eq 15, 3), (37, .aload_n 0, 1), (38, .getfield 15, 3), (41, .iload_n 1, 1), (42, .iload_n 2, 1), (43, .invokevirtual 102, 3), (46, .ifCond .eq 5, 3), (49, .iconst 0, 1), (50, .ireturn, 1), (51, .aload_n 0, 1), (52, .getfield 15, 3), (55, .iload_n 1, 1), (56, .invokevirtual 86, 3), (59, .iload_n 2, 1), (60, .putfield 106, 3), (63, .iconst 1, 1), (64, .ireturn, 1)]
def zk_5_6 : List (Nat × Instr × Nat) := zk_5_6_0
def zk_5_7_0 : List (Nat × Instr × Nat) := [(0, .aload_n 0, 1), (1, .getfield 15, 3), (4, .getfield 74, 3), (7, .iconst 4, 1), (8, .if_icmp .lt 5, 3), (11, .iconst 0, 1), (12, .ireturn, 1), (13, .aload_n 0, 1), (14, .getfield 15, 3), (17, .aload_n 0, 1), (18, .getfield 15, 3), (21, .getfield 74, 3), (24, .invokevirtual 109, 3), (27, .astore_n 1, 1), (28, .aload_n 1, 1), (29, .invokevirtual 113, 3), (32, .aload_n 0, 1), (33, .getfield 15, 3), (36, .dup, 1), (37, .getfield 74, 3), (40, .iconst 1, 1), (41, .iadd, 1), (42, .putfield 74, 3), (45, .iconst 0, 1), (46, .istore_n 2, 1), (47, .iload_n 2, 1), (48, .bipush 24, 2), (50, .if_icmp .ge 34, 3), (53, .aload_n 0, 1), (54, .aload_n 1, 1), (55, .invokevirtual 118, 3), (58, .ifCond .ne 5, 3), (61, .iconst 0, 1), (62, .ireturn, 1), (63, .aload_n 0, 1), (64, .invokevirtual 32, 3), (67, .aload_n 0, 1), (68, .bipush 44, 2), (70, .invokevirtual 42, 3), (73, .ifCond .ne 5, 3), (76, .iconst 1, 1), (77, .ireturn, 1), (78, .iinc 2 1, 3), (81, .goto (-34), 3), (84, .aload_n 0, 1), (85, .invokevirtual 32, 3), (88, .iconst 0, 1), (89, .ireturn, 1)]
def zk_5_7 : List (Nat × Instr × Nat) := zk_5_7_0
def zk_5_8_0 : List (Nat × Instr × Nat) := [(0, .aload_n 0, 1), (1, .ldc 122, 2), (3, .invokevirtual 48, 3), (6, .istore_n 2, 1), (7, .iload_n 2, 1), (8, .ifCond .lt 9, 3), (11, .iload_n 2, 1), (12, .bipush 7, 2), (14, .if_icmp .le 5, 3), (17, .iconst 0, 1), (18, .ireturn, 1), (19, .iload_n 2, 1), (20, .bipush 7, 2), (22, .if_icmp .ne 7, 3), (25, .iconst 0, 1), (26, .goto 17, 3), (29, .aload_n 0, 1), (30, .getstatic 124, 3), (33, .iload_n 2, 1), (34, .iaload, 1), (35, .getstatic 127, 3), (38, .iload_n 2, 1), (39, .iaload, 1), (40, .invokevirtual 83, 3), (43, .istore_n 3, 1), (44, .iload_n 3, 1), (45, .iconst (-1), 1), (46, .if_icmp .ne 5, 3), (49, .iconst 0, 1), (50, .ireturn, 1), (51, .aload_n 1, 1), (52, .iload_n 2, 1), (53, .iload_n 3, 1), (54, .invokevirtual 130, 3), (57, .iconst 1, 1), (58, .ireturn, 1)]
def zk_5_8 : List (Nat × Instr × Nat) := zk_5_8_0
def zk_5_9_0 : List (Nat × Instr × Nat) := [(0, .aload_n 0, 1), (1, .getfield 29, 3), (4, .aload_n 0, 1), (5, .getfield 25, 3), (8, .if_icmp .ge 30, 3), (11, .aload_n 0, 1), (12, .getfield 9, 3), (15, .aload_n 0, 1), (16, .getfield 29, 3), (19, .baload, 1), (20, .bipush 32, 2), (22, .if_icmp .ne 16, 3), (25, .aload_n 0, 1), (26, .dup, 1), (27, .getfield 29, 3), (30, .iconst 1, 1), (31, .iadd, 1), (32, .putfield 29, 3), (35, .goto (-35), 3), (38, .aload_n 0, 1), (39, .aload_n 0, 1), (40, .getfield 29, 3), (43, .putfield 35, 3), (46, .return_, 1)]
def zk_5_9 : List (Nat × Instr × Nat) := zk_5_9_0
def zk_5_10_0 : List (Nat × Instr × Nat) := [(0, .aload_n 0, 1), (1, .getfield 29, 3), (4, .aload_n 0, 1), (5, .getfield 25, 3), (8, .if_icmp .ge 28, 3), (11, .aload_n 0, 1), (12, .getfield 9, 3), (15, .aload_n 0, 1), (16, .getfield 29, 3), (19, .baload, 1), (20, .iload_n 1, 1), (21, .if_icmp .ne 15, 3), (24, .aload_n 0, 1), (25, .dup, 1), (26, .getfield 29, 3), (29, .iconst 1, 1), (30, .iadd, 1), (31, .putfield 29, 3), (34, .iconst 1, 1), (35, .ireturn, 1), (36, .iconst 0, 1), (37, .ireturn, 1)]
def zk_5_10 : List (Nat × Instr × Nat) := zk_5_10_0
def zk_5_11_0 : List (Nat × Instr × Nat) := [(0, .aload_n 0, 1), (1, .invokevirtual 32, 3), (4, .aload_n 0, 1), (5, .getfield 29, 3), (8, .aload_n 0, 1), (9, .getfield 25, 3), (12, .if_icmp .ge 44, 3), (15, .aload_n 0, 1), (16, .getfield 9, 3), (19, .aload_n 0, 1), (20, .getfield 29, 3), (23, .baload, 1), (24, .bipush 97, 2), (26, .if_icmp .lt 30, 3), (29, .aload_n 0, 1), (30, .getfield 9, 3), (33, .aload_n 0, 1), (34, .getfield 29, 3), (37, .baload, 1), (38, .bipush 122, 2), (40, .if_icmp .gt 16, 3), (43, .aload_n 0, 1), (44, .dup, 1), (45, .getfield 29, 3), (48, .iconst 1, 1), (49, .iadd, 1), (50, .putfield 29, 3), (53, .goto (-49), 3), (56, .iconst 0, 1), (57, .istore_n 2, 1), (58, .aload_n 0, 1), (59, .getfield 35, 3), (62, .istore_n 3, 1), (63, .iconst 0, 1), (64, .istore 4, 2), (66, .iconst 0, 1), (67, .istore 5, 2), (69, .iload 5, 2), (71, .aload_n 1, 1), (72, .invokevirtual 134, 3), (75, .if_icmp .gt 90, 3), (78, .iload 5, 2), (80, .aload_n 1, 1), (81, .invokevirtual 134, 3), (84, .if_icmp .eq 14, 3), (87, .aload_n 1, 1), (88, .iload 5, 2), (90, .invokevirtual 139, 3), (93, .bipush 32, 2), (95, .if_icmp .ne 32, 3), (98, .iload 4, 2), (100, .ifCond .ne 13, 3), (103, .iload_n 3, 1), (104, .aload_n 0, 1), (105, .getfield 29, 3), (108, .if_icmp .ne 5, 3), (111, .iload_n 2, 1), (112, .ireturn, 1), (113, .iinc 2 1, 3), (116, .aload_n 0, 1), (117, .getfield 35, 3), (120, .istore_n 3, 1), (121, .iconst 0, 1), (122, .istore 4, 2), (124, .goto 35, 3), (127, .iload_n 3, 1), (128, .aload_n 0, 1), (129, .getfield 29, 3), (132, .if_icmp .ge 24, 3), (135, .aload_n 0, 1), (136, .getfield 9, 3), (139, .iload_n 3, 1), (140, .baload, 1), (141, .aload_n 1, 1), (142, .iload 5, 2), (144, .invokevirtual 139, 3), (147, .if_icmp .ne 9, 3), (150, .iinc 3 1, 3), (153, .goto 6, 3), (156, .iconst 1, 1), (157, .istore 4, 2), (159, .iinc 5 1, 3), (162, .goto (-93), 3), (165, .iconst (-1), 1), (166, .ireturn, 1)]
def zk_5_11 : List (Nat × Instr × Nat) := zk_5_11_0
def zk_5_12_0 : List (Nat × Instr × Nat) := [(0, .aload_n 0, 1), (1, .invokevirtual 32, 3), (4, .iconst 0, 1), (5, .istore_n 3, 1), (6, .aload_n 0, 1), (7, .getfield 29, 3), (10, .aload_n 0, 1), (11, .getfield 25, 3), (14, .if_icmp .ge 75, 3), (17, .aload_n 0, 1), (18, .getfield 9, 3), (21, .aload_n 0, 1), (22, .getfield 29, 3), (25, .baload, 1), (26, .bipush 48, 2), (28, .if_icmp .lt 61, 3), (31, .aload_n 0, 1), (32, .getfield 9, 3), (35, .aload_n 0, 1), (36, .getfield 29, 3), (39, .baload, 1), (40, .bipush 57, 2), (42, .if_icmp .gt 47, 3), (45, .aload_n 0, 1), (46, .getfield 29, 3), (49, .aload_n 0, 1), (50, .getfield 35, 3), (53, .isub, 1), (54, .iconst 4, 1), (55, .if_icmp .ge 21, 3), (58, .iload_n 3, 1), (59, .bipush 10, 2), (61, .imul, 1), (62, .aload_n 0, 1), (63, .getfield 9, 3), (66, .aload_n 0, 1), (67, .getfield 29, 3), (70, .baload, 1), (71, .bipush 48, 2), (73, .isub, 1), (74, .iadd, 1), (75, .istore_n 3, 1), (76, .aload_n 0, 1), (77, .dup, 1), (78, .getfield 29, 3), (81, .iconst 1, 1), (82, .iadd, 1), (83, .putfield 29, 3), (86, .goto (-80), 3), (89, .aload_n 0, 1), (90, .getfield 29, 3), (93, .aload_n 0, 1), (94, .getfield 35, 3), (97, .isub, 1), (98, .istore 4, 2), (100, .iload 4, 2), (102, .iconst 1, 1), (103, .if_icmp .lt 23, 3), (106, .iload 4, 2), (108, .iconst 4, 1), (109, .if_icmp .gt 17, 3), (112, .iload_n 3, 1), (113, .iload_n 1, 1), (114, .if_icmp .lt 12, 3), (117, .iload_n 3, 1), (118, .iload_n 2, 1), (119, .if_icmp .gt 7, 3), (122, .iconst 1, 1), (123, .goto 4, 3), (126, .iconst 0, 1), (127, .istore 5, 2), (129, .iload 5, 2), (131, .ifCond .eq 7, 3), (134, .iload_n 3, 1), (135, .goto 4, 3), (138, .iconst (-1), 1), (139, .ireturn, 1)]
def zk_5_12 : List (Nat × Instr × Nat) := zk_5_12_0
def zmc_5 : List zMt := [(yX5_init, cX5_init, 3, (none : Option FieldType), [], zk_5_0),
  (yX5_readAll, cX5_readAll, 3, (some FieldType.int), [], zk_5_1),
  (yX5_readLine, cX5_readLine, 2, (some FieldType.boolean), [], zk_5_2),
  (yX5_readTerm, cX5_readTerm, 3, (some FieldType.boolean), [], zk_5_3),
  (yX5_readTrust, cX5_readTrust, 3, (some FieldType.boolean), [], zk_5_4),
  (yX5_readWord, cX5_readWord, 3, (some FieldType.boolean), [], zk_5_5),
  (yX5_readLock, cX5_readLock, 3, (some FieldType.boolean), [], zk_5_6),
  (yX5_readProgram, cX5_readProgram, 3, (some FieldType.boolean), [], zk_5_7),
  (yX5_readDeed, cX5_readDeed, 4, (some FieldType.boolean), [], zk_5_8),
  (yX5_lookAhead, cX5_lookAhead, 1, (none : Option FieldType), [], zk_5_9),
  (yX5_skipSign, cX5_skipSign, 2, (some FieldType.boolean), [], zk_5_10),
  (yX5_readName, cX5_readName, 6, (some FieldType.int), [], zk_5_11),
  (yX5_readNumber, cX5_readNumber, 6, (some FieldType.int), [], zk_5_12)]
def zk_6_0_0 : List (Nat × Instr × Nat) := [(0, .aload_n 0, 1), (1, .invokespecial 3, 3), (4, .aload_n 0, 1), (5, .bipush 24, 2), (7, .newarray .int, 2), (9, .putfield 9, 3), (12, .aload_n 0, 1), (13, .bipush 24, 2), (15, .newarray .int, 2), (17, .putfield 15, 3), (20, .aload_n 0, 1), (21, .iconst 5, 1), (22, .newarray .int, 2), (24, .putfield 18, 3), (27, .aload_n 0, 1), (28, .new 21, 3), (31, .dup, 1), (32, .invokespecial 23, 3), (35, .putfield 24, 3), (38, .return_, 1)]
def zk_6_0 : List (Nat × Instr × Nat) := zk_6_0_0
def zk_6_1_0 : List (Nat × Instr × Nat) := [(0, .aload_n 1, 1), (1, .getfield 9, 3), (4, .iconst 0, 1), (5, .aload_n 0, 1), (6, .getfield 9, 3), (9, .iconst 0, 1), (10, .bipush 24, 2), (12, .invokestatic 28, 3), (15, .aload_n 1, 1), (16, .getfield 15, 3), (19, .iconst 0, 1), (20, .aload_n 0, 1), (21, .getfield 15, 3), (24, .iconst 0, 1), (25, .bipush 24, 2), (27, .invokestatic 28, 3), (30, .aload_n 0, 1), (31, .aload_n 1, 1), (32, .getfield 34, 3), (35, .putfield 34, 3), (38, .aload_n 0, 1), (39, .aload_n 1, 1), (40, .getfield 38, 3), (43, .putfield 38, 3), (46, .aload_n 0, 1), (47, .aload_n 1, 1), (48, .getfield 41, 3), (51, .putfield 41, 3), (54, .aload_n 0, 1), (55, .aload_n 1, 1), (56, .getfield 44, 3), (59, .putfield 44, 3), (62, .aload_n 0, 1), (63, .aload_n 1, 1), (64, .getfield 47, 3), (67, .putfield 47, 3), (70, .aload_n 0, 1), (71, .aload_n 1, 1), (72, .getfield 50, 3), (75, .putfield 50, 3), (78, .aload_n 1, 1), (79, .getfield 18, 3), (82, .iconst 0, 1), (83, .aload_n 0, 1), (84, .getfield 18, 3), (87, .iconst 0, 1), (88, .iconst 5, 1), (89, .invokestatic 28, 3), (92, .aload_n 0, 1), (93, .getfield 24, 3), (96, .aload_n 1, 1), (97, .getfield 24, 3), (100, .invokevirtual 53, 3), (103, .return_, 1)]
def zk_6_1 : List (Nat × Instr × Nat) := zk_6_1_0
def zk_6_2_0 : List (Nat × Instr × Nat) := [(0, .aload_n 0, 1), (1, .iconst 0, 1), (2, .putfield 34, 3), (5, .aload_n 0, 1), (6, .iconst 0, 1), (7, .putfield 38, 3), (10, .aload_n 0, 1), (11, .iconst 0, 1), (12, .putfield 41, 3), (15, .aload_n 0, 1), (16, .iconst 0, 1), (17, .putfield 44, 3), (20, .aload_n 0, 1), (21, .iconst 0, 1), (22, .putfield 47, 3), (25, .aload_n 0, 1), (26, .iconst 0, 1), (27, .putfield 50, 3), (30, .iconst 0, 1), (31, .istore_n 1, 1), (32, .iload_n 1, 1), (33, .iconst 5, 1), (34, .if_icmp .ge 16, 3), (37, .aload_n 0, 1), (38, .getfield 18, 3), (41, .iload_n 1, 1), (42, .iconst 0, 1), (43, .iastore, 1), (44, .iinc 1 1, 3), (47, .goto (-15), 3), (50, .aload_n 0, 1), (51, .getfield 24, 3), (54, .invokevirtual 57, 3), (57, .return_, 1)]
def zk_6_2 : List (Nat × Instr × Nat) := zk_6_2_0
def zk_6_3_0 : List (Nat × Instr × Nat) := [(0, .aload_n 0, 1), (1, .getfield 34, 3), (4, .bipush 24, 2), (6, .if_icmp .ge 33, 3), (9, .aload_n 0, 1), (10, .getfield 9, 3), (13, .aload_n 0, 1), (14, .getfield 34, 3), (17, .iload_n 1, 1), (18, .iastore, 1), (19, .aload_n 0, 1), (20, .getfield 15, 3), (23, .aload_n 0, 1), (24, .getfield 34, 3), (27, .iload_n 2, 1), (28, .iastore, 1), (29, .aload_n 0, 1), (30, .dup, 1), (31, .getfield 34, 3), (34, .iconst 1, 1), (35, .iadd, 1), (36, .putfield 34, 3), (39, .return_, 1)]
def zk_6_3 : List (Nat × Instr × Nat) := zk_6_3_0
def zk_6_4_0 : List (Nat × Instr × Nat) := [(0, .iload_n 1, 1), (1, .ifCond .lt 18, 3), (4, .iload_n 1, 1), (5, .bipush 24, 2), (7, .if_icmp .ge 12, 3), (10, .aload_n 0, 1), (11, .getfield 9, 3), (14, .iload_n 1, 1), (15, .iaload, 1), (16, .goto 4, 3), (19, .iconst (-1), 1), (20, .ireturn, 1)]
def zk_6_4 : List (Nat × Instr × Nat) := zk_6_4_0
def zk_6_5_0 : List (Nat × Instr × Nat) := [(0, .iload_n 1, 1), (1, .ifCond .lt 18, 3), (4, .iload_n 1, 1), (5, .bipush 24, 2), (7, .if_icmp .ge 12, 3), (10, .aload_n 0, 1), (11, .getfield 15, 3), (14, .iload_n 1, 1), (15, .iaload, 1), (16, .goto 4, 3), (19, .iconst 0, 1), (20, .ireturn, 1)]
def zk_6_5 : List (Nat × Instr × Nat) := zk_6_5_0
def zk_6_6_0 : List (Nat × Instr × Nat) := [(0, .aload_n 0, 1), (1, .getfield 38, 3), (4, .aload_n 0, 1), (5, .getfield 34, 3), (8, .if_icmp .lt 7, 3), (11, .iconst 1, 1), (12, .goto 4, 3), (15, .iconst 0, 1), (16, .ireturn, 1)]
def zk_6_6 : List (Nat × Instr × Nat) := zk_6_6_0
def zk_6_7_0 : List (Nat × Instr × Nat) := [(0, .iconst 0, 1), (1, .istore_n 1, 1), (2, .iconst 0, 1), (3, .istore_n 2, 1), (4, .iload_n 2, 1), (5, .iconst 5, 1), (6, .if_icmp .ge 18, 3), (9, .iload_n 1, 1), (10, .aload_n 0, 1), (11, .getfield 18, 3), (14, .iload_n 2, 1), (15, .iaload, 1), (16, .iadd, 1), (17, .istore_n 1, 1), (18, .iinc 2 1, 3), (21, .goto (-17), 3), (24, .iload_n 1, 1), (25, .ireturn, 1)]
def zk_6_7 : List (Nat × Instr × Nat) := zk_6_7_0
def zk_6_8_0 : List (Nat × Instr × Nat) := [(0, .iconst 1, 1), (1, .aload_n 0, 1), (2, .iload_n 1, 1), (3, .invokevirtual 60, 3), (6, .ishl, 1), (7, .istore_n 3, 1), (8, .aload_n 0, 1), (9, .iload_n 1, 1), (10, .invokevirtual 64, 3), (13, .lookupswitch 37 #[(0, 27), (1, 31)], 27), (40, .iload_n 2, 1), (41, .iload_n 3, 1), (42, .ior, 1), (43, .ireturn, 1), (44, .iload_n 2, 1), (45, .iload_n 3, 1), (46, .iconst (-1), 1), (47, .ixor, 1), (48, .iand, 1), (49, .ireturn, 1), (50, .iload_n 2, 1), (51, .ireturn, 1)]
def zk_6_8 : List (Nat × Instr × Nat) := zk_6_8_0
def zk_6_9_0 : List (Nat × Instr × Nat) := [(0, .iconst 0, 1), (1, .istore_n 1, 1), (2, .iconst 0, 1), (3, .istore_n 2, 1), (4, .iconst 0, 1), (5, .istore_n 3, 1), (6, .iload_n 3, 1), (7, .aload_n 0, 1), (8, .getfield 34, 3), (11, .if_icmp .ge 25, 3), (14, .aload_n 0, 1), (15, .iload_n 3, 1), (16, .iload_n 2, 1), (17, .invokevirtual 67, 3), (20, .istore_n 2, 1), (21, .iload_n 1, 1), (22, .iload_n 2, 1), (23, .invokestatic 71, 3), (26, .invokestatic 76, 3), (29, .istore_n 1, 1), (30, .iinc 3 1, 3), (33, .goto (-27), 3), (36, .iload_n 1, 1), (37, .ireturn, 1)]
def zk_6_9 : List (Nat × Instr × Nat) := zk_6_9_0
def zk_6_10_0 : List (Nat × Instr × Nat) := [(0, .aload_n 0, 1), (1, .iload_n 1, 1), (2, .invokevirtual 64, 3), (5, .ifCond .eq 7, 3), (8, .iload_n 1, 1), (9, .iconst 1, 1), (10, .iadd, 1), (11, .ireturn, 1), (12, .iconst 0, 1), (13, .istore_n 2, 1), (14, .iload_n 1, 1), (15, .istore_n 3, 1), (16, .iload_n 3, 1), (17, .aload_n 0, 1), (18, .getfield 34, 3), (21, .if_icmp .ge 24, 3), (24, .aload_n 0, 1), (25, .iload_n 3, 1), (26, .iload_n 2, 1), (27, .invokevirtual 67, 3), (30, .istore_n 2, 1), (31, .iload_n 2, 1), (32, .ifCond .ne 7, 3), (35, .iload_n 3, 1), (36, .iconst 1, 1), (37, .iadd, 1), (38, .ireturn, 1), (39, .iinc 3 1, 3), (42, .goto (-26), 3), (45, .aload_n 0, 1), (46, .getfield 34, 3), (49, .ireturn, 1)]
def zk_6_10 : List (Nat × Instr × Nat) := zk_6_10_0
def zk_6_11_0 : List (Nat × Instr × Nat) := [(0, .iconst 0, 1), (1, .istore_n 1, 1), (2, .iconst 0, 1), (3, .istore_n 2, 1), (4, .iload_n 1, 1), (5, .bipush 24, 2), (7, .if_icmp .ge 23, 3), (10, .iload_n 2, 1), (11, .aload_n 0, 1), (12, .getfield 34, 3), (15, .if_icmp .ge 15, 3), (18, .aload_n 0, 1), (19, .iload_n 2, 1), (20, .invokevirtual 81, 3), (23, .istore_n 2, 1), (24, .iinc 1 1, 3), (27, .goto (-23), 3), (30, .iload_n 1, 1), (31, .ireturn, 1)]
def zk_6_11 : List (Nat × Instr × Nat) := zk_6_11_0
def zmc_6 : List zMt := [(yX6_init, cX6_init, 1, (none : Option FieldType), [], zk_6_0),
  (yX6_copyFrom, cX6_copyFrom, 2, (none : Option FieldType), [], zk_6_1),
  (yX6_clear, cX6_clear, 2, (none : Option FieldType), [], zk_6_2),
  (yX6_addDeed, cX6_addDeed, 3, (none : Option FieldType), [], zk_6_3),
  (yX6_kindAt, cX6_kindAt, 2, (some FieldType.int), [], zk_6_4),
  (yX6_numberAt, cX6_numberAt, 2, (some FieldType.int), [], zk_6_5),
  (yX6_isDone, cX6_isDone, 1, (some FieldType.boolean), [], zk_6_6),
  (yX6_allFalls, cX6_allFalls, 3, (some FieldType.int), [], zk_6_7),
  (yX6_heldBehind, cX6_heldBehind, 4, (some FieldType.int), [], zk_6_8),
  (yX6_mostHeld, cX6_mostHeld, 4, (some FieldType.int), [], zk_6_9),
  (yX6_partEnd, cX6_partEnd, 4, (some FieldType.int), [], zk_6_10),
  (yX6_partCount, cX6_partCount, 3, (some FieldType.int), [], zk_6_11)]
def zk_7_0_0 : List (Nat × Instr × Nat) := [(0, .aload_n 0, 1), (1, .invokespecial 3, 3), (4, .aload_n 0, 1), (5, .sipush 400, 3), (8, .newarray .byte, 2), (10, .putfield 9, 3), (13, .return_, 1)]
def zk_7_0 : List (Nat × Instr × Nat) := zk_7_0_0
def zk_7_1_0 : List (Nat × Instr × Nat) := [(0, .aload_n 0, 1), (1, .iconst 0, 1), (2, .putfield 15, 3), (5, .aload_n 0, 1), (6, .ldc 19, 2), (8, .iconst 0, 1), (9, .invokevirtual 21, 3), (12, .iconst 0, 1), (13, .istore_n 2, 1), (14, .iload_n 2, 1), (15, .aload_n 1, 1), (16, .getfield 25, 3), (19, .if_icmp .ge 55, 3), (22, .iload_n 2, 1), (23, .ifCond .le 15, 3), (26, .aload_n 0, 1), (27, .bipush 44, 2), (29, .invokevirtual 30, 3), (32, .aload_n 0, 1), (33, .bipush 32, 2), (35, .invokevirtual 30, 3), (38, .aload_n 0, 1), (39, .ldc 34, 2), (41, .aload_n 1, 1), (42, .iload_n 2, 1), (43, .invokevirtual 36, 3), (46, .invokevirtual 21, 3), (49, .aload_n 1, 1), (50, .iload_n 2, 1), (51, .invokevirtual 36, 3), (54, .bipush 7, 2), (56, .if_icmp .eq 12, 3), (59, .aload_n 0, 1), (60, .aload_n 1, 1), (61, .iload_n 2, 1), (62, .invokevirtual 40, 3), (65, .invokevirtual 43, 3), (68, .iinc 2 1, 3), (71, .goto (-57), 3), (74, .aload_n 0, 1), (75, .getfield 15, 3), (78, .ireturn, 1)]
def zk_7_1 : List (Nat × Instr × Nat) := zk_7_1_0
def zk_7_2_0 : List (Nat × Instr × Nat) := [(0, .iload_n 1, 1), (1, .ifCond .lt 31, 3), (4, .iload_n 1, 1), (5, .aload_n 0, 1), (6, .getfield 15, 3), (9, .if_icmp .ge 23, 3), (12, .iload_n 1, 1), (13, .sipush 400, 3), (16, .if_icmp .ge 16, 3), (19, .aload_n 0, 1), (20, .getfield 9, 3), (23, .iload_n 1, 1), (24, .baload, 1), (25, .sipush 255, 3), (28, .iand, 1), (29, .goto 4, 3), (32, .iconst (-1), 1), (33, .ireturn, 1)]
def zk_7_2 : List (Nat × Instr × Nat) := zk_7_2_0
def zk_7_3_0 : List (Nat × Instr × Nat) := [(0, .aload_n 0, 1), (1, .getfield 15, 3), (4, .sipush 400, 3), (7, .if_icmp .ge 24, 3), (10, .aload_n 0, 1), (11, .getfield 9, 3), (14, .aload_n 0, 1), (15, .getfield 15, 3), (18, .iload_n 1, 1), (19, .i2b, 1), (20, .bastore, 1), (21, .aload_n 0, 1), (22, .dup, 1), (23, .getfield 15, 3), (26, .iconst 1, 1), (27, .iadd, 1), (28, .putfield 15, 3), (31, .return_, 1)]
def zk_7_3 : List (Nat × Instr × Nat) := zk_7_3_0
def zk_7_4_0 : List (Nat × Instr × Nat) := [(0, .iconst 0, 1), (1, .istore_n 3, 1), (2, .iconst 0, 1), (3, .istore 4, 2), (5, .iload 4, 2), (7, .aload_n 1, 1), (8, .invokevirtual 46, 3), (11, .if_icmp .ge 41, 3), (14, .aload_n 1, 1), (15, .iload 4, 2), (17, .invokevirtual 51, 3), (20, .bipush 32, 2), (22, .if_icmp .ne 9, 3), (25, .iinc 3 1, 3), (28, .goto 18, 3), (31, .iload_n 3, 1), (32, .iload_n 2, 1), (33, .if_icmp .ne 13, 3), (36, .aload_n 0, 1), (37, .aload_n 1, 1), (38, .iload 4, 2), (40, .invokevirtual 51, 3), (43, .invokevirtual 30, 3), (46, .iinc 4 1, 3), (49, .goto (-44), 3), (52, .aload_n 0, 1), (53, .bipush 32, 2), (55, .invokevirtual 30, 3), (58, .return_, 1)]
def zk_7_4 : List (Nat × Instr × Nat) := zk_7_4_0
def zk_7_5_0 : List (Nat × Instr × Nat) := [(0, .iload_n 1, 1), (1, .bipush 100, 2), (3, .if_icmp .lt 17, 3), (6, .aload_n 0, 1), (7, .bipush 48, 2), (9, .iload_n 1, 1), (10, .bipush 100, 2), (12, .idiv, 1), (13, .bipush 10, 2), (15, .irem, 1), (16, .iadd, 1), (17, .invokevirtual 30, 3), (20, .iload_n 1, 1), (21, .bipush 10, 2), (23, .if_icmp .lt 17, 3), (26, .aload_n 0, 1), (27, .bipush 48, 2), (29, .iload_n 1, 1), (30, .bipush 10, 2), (32, .idiv, 1), (33, .bipush 10, 2), (35, .irem, 1), (36, .iadd, 1), (37, .invokevirtual 30, 3), (40, .aload_n 0, 1), (41, .bipush 48, 2), (43, .iload_n 1, 1), (44, .bipush 10, 2), (46, .irem, 1), (47, .iadd, 1), (48, .invokevirtual 30, 3), (51, .return_, 1)]
def zk_7_5 : List (Nat × Instr × Nat) := zk_7_5_0
def zmc_7 : List zMt := [(yX7_init, cX7_init, 1, (none : Option FieldType), [], zk_7_0),
  (yX7_write, cX7_write, 3, (some FieldType.int), [], zk_7_1),
  (yX7_byteAt, cX7_byteAt, 2, (some FieldType.int), [], zk_7_2),
  (yX7_putByte, cX7_putByte, 2, (none : Option FieldType), [], zk_7_3),
  (yX7_putName, cX7_putName, 5, (none : Option FieldType), [], zk_7_4),
  (yX7_putNumber, cX7_putNumber, 2, (none : Option FieldType), [], zk_7_5)]
def zk_8_0_0 : List (Nat × Instr × Nat) := [(0, .aload_n 0, 1), (1, .invokespecial 3, 3), (4, .aload_n 0, 1), (5, .new 9, 3), (8, .dup, 1), (9, .invokespecial 11, 3), (12, .putfield 12, 3), (15, .aload_n 0, 1), (16, .new 9, 3), (19, .dup, 1), (20, .invokespecial 11, 3), (23, .putfield 16, 3), (26, .aload_n 0, 1), (27, .new 9, 3), (30, .dup, 1), (31, .invokespecial 11, 3), (34, .putfield 19, 3), (37, .aload_n 0, 1), (38, .sipush 400, 3), (41, .newarray .byte, 2), (43, .putfield 22, 3), (46, .aload_n 0, 1), (47, .iconst (-1), 1), (48, .putfield 26, 3), (51, .aload_n 0, 1), (52, .new 30, 3), (55, .dup, 1), (56, .aload_n 0, 1), (57, .getfield 22, 3), (60, .aload_n 0, 1), (61, .getfield 16, 3), (64, .invokespecial 32, 3), (67, .putfield 35, 3), (70, .aload_n 0, 1), (71, .new 39, 3), (74, .dup, 1), (75, .invokespecial 41, 3), (78, .putfield 42, 3), (81, .aload_n 0, 1), (82, .new 46, 3), (85, .dup, 1), (86, .aload_n 0, 1), (87, .getfield 12, 3), (90, .invokespecial 48, 3), (93, .putfield 51, 3), (96, .return_, 1)]
def zk_8_0 : List (Nat × Instr × Nat) := zk_8_0_0
def zk_8_1_0 : List (Nat × Instr × Nat) := [(0, .aload_n 0, 1), (1, .getfield 55, 3), (4, .bipush 20, 2), (6, .iadd, 1), (7, .sipush 400, 3), (10, .if_icmp .le 5, 3), (13, .iconst (-1), 1), (14, .ireturn, 1), (15, .aload_n 0, 1), (16, .iload_n 1, 1), (17, .invokevirtual 58, 3), (20, .aload_n 0, 1), (21, .iload_n 2, 1), (22, .invokevirtual 58, 3), (25, .aload_n 0, 1), (26, .iload_n 3, 1), (27, .invokevirtual 58, 3), (30, .aload_n 0, 1), (31, .iload 4, 2), (33, .invokevirtual 58, 3), (36, .aload_n 0, 1), (37, .iload 5, 2), (39, .invokevirtual 58, 3), (42, .aload_n 0, 1), (43, .getfield 55, 3), (46, .ireturn, 1)]
def zk_8_1 : List (Nat × Instr × Nat) := zk_8_1_0
def zk_8_2_0 : List (Nat × Instr × Nat) := [(0, .bipush 24, 2), (2, .istore_n 2, 1), (3, .iload_n 2, 1), (4, .ifCond .lt 42, 3), (7, .aload_n 0, 1), (8, .getfield 55, 3), (11, .sipush 400, 3), (14, .if_icmp .ge 26, 3), (17, .aload_n 0, 1), (18, .getfield 22, 3), (21, .aload_n 0, 1), (22, .getfield 55, 3), (25, .iload_n 1, 1), (26, .iload_n 2, 1), (27, .ishr, 1), (28, .i2b, 1), (29, .bastore, 1), (30, .aload_n 0, 1), (31, .dup, 1), (32, .getfield 55, 3), (35, .iconst 1, 1), (36, .iadd, 1), (37, .putfield 55, 3), (40, .iinc 2 (-8), 3), (43, .goto (-40), 3), (46, .return_, 1)]
def zk_8_2 : List (Nat × Instr × Nat) := zk_8_2_0
def zk_8_3_0 : List (Nat × Instr × Nat) := [(0, .iload_n 1, 1), (1, .ifCond .lt 11, 3), (4, .iload_n 1, 1), (5, .aload_n 0, 1), (6, .getfield 55, 3), (9, .if_icmp .le 5, 3), (12, .iconst 0, 1), (13, .ireturn, 1), (14, .aload_n 0, 1), (15, .iload_n 1, 1), (16, .putfield 55, 3), (19, .iconst 1, 1), (20, .ireturn, 1)]
def zk_8_3 : List (Nat × Instr × Nat) := zk_8_3_0
def zk_8_4_0 : List (Nat × Instr × Nat) := [(0, .aload_n 0, 1), (1, .getfield 16, 3), (4, .aload_n 0, 1), (5, .getfield 12, 3), (8, .invokevirtual 62, 3), (11, .aload_n 0, 1), (12, .aload_n 0, 1), (13, .getfield 35, 3), (16, .aload_n 0, 1), (17, .getfield 55, 3), (20, .invokevirtual 65, 3), (23, .putfield 26, 3), (26, .aload_n 0, 1), (27, .iconst 0, 1), (28, .putfield 55, 3), (31, .aload_n 0, 1), (32, .getfield 26, 3), (35, .iconst (-1), 1), (36, .if_icmp .eq 13, 3), (39, .new 69, 3), (42, .dup, 1), (43, .ldc 71, 2), (45, .invokespecial 73, 3), (48, .athrow, 1), (49, .aload_n 0, 1), (50, .getfield 12, 3), (53, .getfield 76, 3), (56, .bipush 12, 2), (58, .if_icmp .lt 13, 3), (61, .new 79, 3), (64, .dup, 1), (65, .ldc 81, 2), (67, .invokespecial 83, 3), (70, .athrow, 1), (71, .aload_n 0, 1), (72, .getfield 12, 3), (75, .aload_n 0, 1), (76, .getfield 16, 3), (79, .invokevirtual 62, 3), (82, .aload_n 0, 1), (83, .getfield 12, 3), (86, .dup, 1), (87, .getfield 76, 3), (90, .iconst 1, 1), (91, .iadd, 1), (92, .putfield 76, 3), (95, .aload_n 0, 1), (96, .getfield 51, 3), (99, .invokevirtual 84, 3), (102, .aload_n 0, 1), (103, .getfield 12, 3), (106, .getfield 76, 3), (109, .ireturn, 1)]
def zk_8_4 : List (Nat × Instr × Nat) := zk_8_4_0
def zk_8_5_0 : List (Nat × Instr × Nat) := [(0, .aload_n 0, 1), (1, .getfield 26, 3), (4, .ireturn, 1)]
def zk_8_5 : List (Nat × Instr × Nat) := zk_8_5_0
def zk_8_6_0 : List (Nat × Instr × Nat) := [(0, .aload_n 0, 1), (1, .iload_n 1, 1), (2, .invokevirtual 87, 3), (5, .astore_n 3, 1), (6, .iload_n 2, 1), (7, .tableswitch 125 0 9 #[53, 58, 63, 79, 92, 97, 102, 107, 115, 120], 53), (60, .aload_n 3, 1), (61, .getfield 91, 3), (64, .ireturn, 1), (65, .aload_n 3, 1), (66, .getfield 96, 3), (69, .ireturn, 1), (70, .aload_n 3, 1), (71, .getfield 99, 3), (74, .getfield 103, 3), (77, .ifCond .eq 7, 3), (80, .iconst 1, 1), (81, .goto 4, 3), (84, .iconst 0, 1), (85, .ireturn, 1), (86, .aload_n 3, 1), (87, .invokevirtual 109, 3), (90, .ifCond .eq 7, 3), (93, .iconst 1, 1), (94, .goto 4, 3), (97, .iconst 0, 1), (98, .ireturn, 1), (99, .aload_n 3, 1), (100, .getfield 113, 3), (103, .ireturn, 1), (104, .aload_n 3, 1), (105, .getfield 116, 3), (108, .ireturn, 1), (109, .aload_n 3, 1), (110, .invokevirtual 118, 3), (113, .ireturn, 1), (114, .aload_n 3, 1), (115, .getfield 99, 3), (118, .getfield 122, 3), (121, .ireturn, 1), (122, .aload_n 3, 1), (123, .getfield 125, 3), (126, .ireturn, 1), (127, .aload_n 3, 1), (128, .getfield 128, 3), (131, .ireturn, 1), (132, .new 131, 3), (135, .dup, 1), (136, .ldc 133, 2), (138, .invokespecial 135, 3), (141, .athrow, 1)]
def zk_8_6 : List (Nat × Instr × Nat) := zk_8_6_0
def zk_8_7_0 : List (Nat × Instr × Nat) := [(0, .aload_n 0, 1), (1, .iload_n 1, 1), (2, .invokevirtual 87, 3), (5, .getfield 99, 3), (8, .astore_n 3, 1), (9, .iload_n 2, 1), (10, .ifCond .lt 25, 3), (13, .iload_n 2, 1), (14, .aload_n 3, 1), (15, .getfield 122, 3), (18, .if_icmp .ge 17, 3), (21, .iload_n 2, 1), (22, .iconst 4, 1), (23, .if_icmp .ge 12, 3), (26, .aload_n 3, 1), (27, .getfield 136, 3), (30, .iload_n 2, 1), (31, .iaload, 1), (32, .goto 4, 3), (35, .iconst (-1), 1), (36, .ireturn, 1)]
def zk_8_7 : List (Nat × Instr × Nat) := zk_8_7_0
def zk_8_8_0 : List (Nat × Instr × Nat) := [(0, .aload_n 0, 1), (1, .iload_n 1, 1), (2, .invokevirtual 87, 3), (5, .getfield 99, 3), (8, .astore_n 3, 1), (9, .iload_n 2, 1), (10, .invokestatic 140, 3), (13, .ifCond .ne 10, 3), (16, .aload_n 3, 1), (17, .getfield 143, 3), (20, .goto 7, 3), (23, .aload_n 3, 1), (24, .getfield 146, 3), (27, .ireturn, 1)]
def zk_8_8 : List (Nat × Instr × Nat) := zk_8_8_0
def zk_8_9_0 : List (Nat × Instr × Nat) := [(0, .iload_n 1, 1), (1, .iconst (-1), 1), (2, .if_icmp .eq 9, 3), (5, .aload_n 0, 1), (6, .iload_n 1, 1), (7, .invokevirtual 87, 3), (10, .pop, 1), (11, .iload_n 2, 1), (12, .ifCond .lt 8, 3), (15, .iload_n 2, 1), (16, .iconst 5, 1), (17, .if_icmp .lt 13, 3), (20, .new 131, 3), (23, .dup, 1), (24, .ldc 149, 2), (26, .invokespecial 135, 3), (29, .athrow, 1), (30, .iconst 0, 1), (31, .istore_n 3, 1), (32, .iconst 0, 1), (33, .istore 4, 2), (35, .iload 4, 2), (37, .aload_n 0, 1), (38, .getfield 12, 3), (41, .getfield 151, 3), (44, .if_icmp .ge 37, 3), (47, .iload_n 1, 1), (48, .iconst (-1), 1), (49, .if_icmp .eq 9, 3), (52, .iload_n 1, 1), (53, .iload 4, 2), (55, .if_icmp .ne 20, 3), (58, .iload_n 3, 1), (59, .aload_n 0, 1), (60, .getfield 12, 3), (63, .iload 4, 2), (65, .invokevirtual 154, 3), (68, .getfield 157, 3), (71, .iload_n 2, 1), (72, .iaload, 1), (73, .iadd, 1), (74, .istore_n 3, 1), (75, .iinc 4 1, 3), (78, .goto (-43), 3), (81, .iload_n 3, 1), (82, .ireturn, 1)]
def zk_8_9 : List (Nat × Instr × Nat) := zk_8_9_0
def zk_8_10_0 : List (Nat × Instr × Nat) := [(0, .aload_n 0, 1), (1, .getfield 12, 3), (4, .getfield 160, 3), (7, .iload_n 1, 1), (8, .invokestatic 163, 3), (11, .iaload, 1), (12, .ireturn, 1)]
def zk_8_10 : List (Nat × Instr × Nat) := zk_8_10_0
def zk_8_11_0 : List (Nat × Instr × Nat) := [(0, .aload_n 0, 1), (1, .iload_n 1, 1), (2, .invokevirtual 87, 3), (5, .astore_n 3, 1), (6, .aload_n 0, 1), (7, .getfield 12, 3), (10, .aload_n 3, 1), (11, .iload_n 2, 1), (12, .invokestatic 163, 3), (15, .invokevirtual 166, 3), (18, .ireturn, 1)]
def zk_8_11 : List (Nat × Instr × Nat) := zk_8_11_0
def zk_8_12_0 : List (Nat × Instr × Nat) := [(0, .iload_n 1, 1), (1, .ifCond .lt 8, 3), (4, .iload_n 1, 1), (5, .iconst 4, 1), (6, .if_icmp .lt 13, 3), (9, .new 170, 3), (12, .dup, 1), (13, .ldc 172, 2), (15, .invokespecial 174, 3), (18, .athrow, 1), (19, .aload_n 0, 1), (20, .getfield 12, 3), (23, .iload_n 1, 1), (24, .invokevirtual 175, 3), (27, .astore_n 3, 1), (28, .iload_n 2, 1), (29, .tableswitch 84 0 5 #[39, 44, 60, 65, 70, 79], 39), (68, .aload_n 3, 1), (69, .getfield 179, 3), (72, .ireturn, 1), (73, .aload_n 0, 1), (74, .getfield 12, 3), (77, .getfield 160, 3), (80, .aload_n 3, 1), (81, .getfield 179, 3), (84, .bipush 31, 2), (86, .iand, 1), (87, .iaload, 1), (88, .ireturn, 1), (89, .aload_n 3, 1), (90, .getfield 184, 3), (93, .ireturn, 1), (94, .aload_n 3, 1), (95, .getfield 187, 3), (98, .ireturn, 1), (99, .aload_n 0, 1), (100, .getfield 12, 3), (103, .iload_n 1, 1), (104, .invokevirtual 190, 3), (107, .ireturn, 1), (108, .aload_n 3, 1), (109, .getfield 193, 3), (112, .ireturn, 1), (113, .new 131, 3), (116, .dup, 1), (117, .ldc 194, 2), (119, .invokespecial 135, 3), (122, .athrow, 1)]
def zk_8_12 : List (Nat × Instr × Nat) := zk_8_12_0
def zk_8_13_0 : List (Nat × Instr × Nat) := [(0, .iload_n 1, 1), (1, .ifCond .lt 9, 3), (4, .iload_n 1, 1), (5, .bipush 8, 2), (7, .if_icmp .le 13, 3), (10, .new 131, 3), (13, .dup, 1), (14, .ldc 196, 2), (16, .invokespecial 135, 3), (19, .athrow, 1), (20, .aload_n 0, 1), (21, .getfield 12, 3), (24, .getfield 198, 3), (27, .iload_n 1, 1), (28, .iaload, 1), (29, .ireturn, 1)]
def zk_8_13 : List (Nat × Instr × Nat) := zk_8_13_0
def zk_8_14_0 : List (Nat × Instr × Nat) := [(0, .aload_n 0, 1), (1, .iload_n 1, 1), (2, .invokevirtual 87, 3), (5, .astore 4, 2), (7, .iload_n 3, 1), (8, .invokestatic 140, 3), (11, .ifCond .ne 7, 3), (14, .iconst 1, 1), (15, .goto 4, 3), (18, .iconst 0, 1), (19, .istore 5, 2), (21, .iload_n 2, 1), (22, .ifCond .lt 12, 3), (25, .iload_n 2, 1), (26, .aload 4, 2), (28, .getfield 125, 3), (31, .if_icmp .lt 5, 3), (34, .iconst (-1), 1), (35, .ireturn, 1), (36, .iload 5, 2), (38, .ifCond .eq 12, 3), (41, .aload 4, 2), (43, .iload_n 2, 1), (44, .invokevirtual 201, 3), (47, .goto 9, 3), (50, .aload 4, 2), (52, .iload_n 2, 1), (53, .invokevirtual 204, 3), (56, .ireturn, 1)]
def zk_8_14 : List (Nat × Instr × Nat) := zk_8_14_0
def zk_8_15_0 : List (Nat × Instr × Nat) := [(0, .aload_n 0, 1), (1, .iload_n 1, 1), (2, .invokevirtual 87, 3), (5, .astore_n 2, 1), (6, .aload_n 2, 1), (7, .invokevirtual 109, 3), (10, .ifCond .ne 15, 3), (13, .aload_n 0, 1), (14, .getfield 12, 3), (17, .getfield 207, 3), (20, .ldc 210, 2), (22, .if_icmp .lt 13, 3), (25, .new 211, 3), (28, .dup, 1), (29, .ldc 213, 2), (31, .invokespecial 215, 3), (34, .athrow, 1), (35, .aload_n 0, 1), (36, .getfield 51, 3), (39, .invokevirtual 84, 3), (42, .aload_n 0, 1), (43, .getfield 12, 3), (46, .iload_n 1, 1), (47, .invokevirtual 216, 3), (50, .ireturn, 1)]
def zk_8_15 : List (Nat × Instr × Nat) := zk_8_15_0
def zk_8_16_0 : List (Nat × Instr × Nat) := [(0, .aload_n 0, 1), (1, .iload_n 1, 1), (2, .invokestatic 219, 3), (5, .iconst 0, 1), (6, .invokevirtual 222, 3), (9, .ireturn, 1)]
def zk_8_16 : List (Nat × Instr × Nat) := zk_8_16_0
def zk_8_17_0 : List (Nat × Instr × Nat) := [(0, .aload_n 0, 1), (1, .iload_n 1, 1), (2, .invokestatic 219, 3), (5, .iconst 1, 1), (6, .invokevirtual 222, 3), (9, .ireturn, 1)]
def zk_8_17 : List (Nat × Instr × Nat) := zk_8_17_0
def zk_8_18_0 : List (Nat × Instr × Nat) := [(0, .aload_n 0, 1), (1, .getfield 51, 3), (4, .invokevirtual 84, 3), (7, .iconst 0, 1), (8, .istore_n 3, 1), (9, .iload_n 3, 1), (10, .iload_n 1, 1), (11, .if_icmp .ge 63, 3), (14, .aload_n 0, 1), (15, .getfield 12, 3), (18, .getfield 207, 3), (21, .ldc 210, 2), (23, .if_icmp .ge 51, 3), (26, .iload_n 2, 1), (27, .ifCond .eq 13, 3), (30, .aload_n 0, 1), (31, .getfield 12, 3), (34, .invokevirtual 226, 3), (37, .goto 10, 3), (40, .aload_n 0, 1), (41, .getfield 12, 3), (44, .invokevirtual 229, 3), (47, .istore 4, 2), (49, .iload 4, 2), (51, .iconst (-1), 1), (52, .if_icmp .ne 6, 3), (55, .goto 19, 3), (58, .aload_n 0, 1), (59, .getfield 12, 3), (62, .iload 4, 2), (64, .invokevirtual 216, 3), (67, .pop, 1), (68, .iinc 3 1, 3), (71, .goto (-62), 3), (74, .iload_n 3, 1), (75, .ireturn, 1)]
def zk_8_18 : List (Nat × Instr × Nat) := zk_8_18_0
def zk_8_19_0 : List (Nat × Instr × Nat) := [(0, .aload_n 0, 1), (1, .getfield 12, 3), (4, .getfield 160, 3), (7, .iload_n 1, 1), (8, .invokestatic 163, 3), (11, .iaload, 1), (12, .istore_n 3, 1), (13, .iload_n 2, 1), (14, .ifCond .lt 10, 3), (17, .iload_n 2, 1), (18, .sipush 10000, 3), (21, .if_icmp .lt 13, 3), (24, .new 69, 3), (27, .dup, 1), (28, .ldc 232, 2), (30, .invokespecial 73, 3), (33, .athrow, 1), (34, .aload_n 0, 1), (35, .getfield 51, 3), (38, .invokevirtual 84, 3), (41, .aload_n 0, 1), (42, .getfield 12, 3), (45, .iconst (-1), 1), (46, .iload_n 1, 1), (47, .iload_n 2, 1), (48, .invokevirtual 234, 3), (51, .pop, 1), (52, .iload_n 3, 1), (53, .ireturn, 1)]
def zk_8_19 : List (Nat × Instr × Nat) := zk_8_19_0
def zk_8_20_0 : List (Nat × Instr × Nat) := [(0, .iload_n 1, 1), (1, .iconst 1, 1), (2, .if_icmp .lt 9, 3), (5, .iload_n 1, 1), (6, .bipush 8, 2), (8, .if_icmp .le 13, 3), (11, .new 131, 3), (14, .dup, 1), (15, .ldc 238, 2), (17, .invokespecial 135, 3), (20, .athrow, 1), (21, .iload_n 2, 1), (22, .getstatic 240, 3), (25, .iload_n 1, 1), (26, .iaload, 1), (27, .if_icmp .lt 12, 3), (30, .iload_n 2, 1), (31, .getstatic 243, 3), (34, .iload_n 1, 1), (35, .iaload, 1), (36, .if_icmp .le 13, 3), (39, .new 69, 3), (42, .dup, 1), (43, .ldc 246, 2), (45, .invokespecial 73, 3), (48, .athrow, 1), (49, .aload_n 0, 1), (50, .getfield 12, 3), (53, .getfield 198, 3), (56, .iload_n 1, 1), (57, .iaload, 1), (58, .istore_n 3, 1), (59, .aload_n 0, 1), (60, .getfield 12, 3), (63, .getfield 198, 3), (66, .iload_n 1, 1), (67, .iload_n 2, 1), (68, .iastore, 1), (69, .iload_n 3, 1), (70, .ireturn, 1)]
def zk_8_20 : List (Nat × Instr × Nat) := zk_8_20_0
def zk_8_21_0 : List (Nat × Instr × Nat) := [(0, .aload_n 0, 1), (1, .getfield 12, 3), (4, .getfield 248, 3), (7, .istore_n 2, 1), (8, .aload_n 0, 1), (9, .getfield 12, 3), (12, .iload_n 1, 1), (13, .putfield 248, 3), (16, .iload_n 2, 1), (17, .ireturn, 1)]
def zk_8_21 : List (Nat × Instr × Nat) := zk_8_21_0
def zk_8_22_0 : List (Nat × Instr × Nat) := [(0, .aload_n 0, 1), (1, .iload_n 1, 1), (2, .invokevirtual 87, 3), (5, .pop, 1), (6, .aload_n 0, 1), (7, .iload_n 1, 1), (8, .aload_n 0, 1), (9, .getfield 12, 3), (12, .getfield 198, 3), (15, .iconst 4, 1), (16, .iaload, 1), (17, .sipush 400, 3), (20, .invokevirtual 251, 3), (23, .ireturn, 1)]
def zk_8_22 : List (Nat × Instr × Nat) := zk_8_22_0
def zk_8_23_0 : List (Nat × Instr × Nat) := [(0, .iload_n 1, 1), (1, .invokestatic 140, 3), (4, .ifCond .ne 7, 3), (7, .iconst 1, 1), (8, .goto 4, 3), (11, .iconst 0, 1), (12, .istore_n 2, 1), (13, .iconst (-1), 1), (14, .istore_n 3, 1), (15, .sipush 401, 3), (18, .istore 4, 2), (20, .iconst 0, 1), (21, .istore 5, 2), (23, .iload 5, 2), (25, .bipush 16, 2), (27, .if_icmp .gt 35, 3), (30, .aload_n 0, 1), (31, .iconst (-1), 1), (32, .iload 5, 2), (34, .iload 4, 2), (36, .iconst 1, 1), (37, .isub, 1), (38, .invokevirtual 251, 3), (41, .istore 6, 2), (43, .iload 6, 2), (45, .iconst (-1), 1), (46, .if_icmp .eq 10, 3), (49, .iload 5, 2), (51, .istore_n 3, 1), (52, .iload 6, 2), (54, .istore 4, 2), (56, .iinc 5 1, 3), (59, .goto (-36), 3), (62, .iload_n 3, 1), (63, .iconst (-1), 1), (64, .if_icmp .ne 5, 3), (67, .iconst (-1), 1), (68, .ireturn, 1), (69, .iload_n 2, 1), (70, .ifCond .eq 7, 3), (73, .iload_n 3, 1), (74, .goto 5, 3), (77, .iload 4, 2), (79, .ireturn, 1)]
def zk_8_23 : List (Nat × Instr × Nat) := zk_8_23_0
def zk_8_24_0 : List (Nat × Instr × Nat) := [(0, .aload_n 0, 1), (1, .iconst (-1), 1), (2, .bipush 16, 2), (4, .sipush 400, 3), (7, .invokevirtual 251, 3), (10, .ireturn, 1)]
def zk_8_24 : List (Nat × Instr × Nat) := zk_8_24_0
def zk_8_25_0 : List (Nat × Instr × Nat) := [(0, .iload_n 3, 1), (1, .ifCond .ge 5, 3), (4, .iconst (-1), 1), (5, .ireturn, 1), (6, .aload_n 0, 1), (7, .getfield 16, 3), (10, .aload_n 0, 1), (11, .getfield 12, 3), (14, .invokevirtual 62, 3), (17, .aload_n 0, 1), (18, .getfield 16, 3), (21, .getfield 198, 3), (24, .iconst 4, 1), (25, .iload_n 2, 1), (26, .iastore, 1), (27, .iconst 0, 1), (28, .istore 4, 2), (30, .iload 4, 2), (32, .iload_n 3, 1), (33, .if_icmp .ge 62, 3), (36, .aload_n 0, 1), (37, .getfield 16, 3), (40, .iload_n 1, 1), (41, .invokevirtual 254, 3), (44, .ifCond .eq 6, 3), (47, .iload 4, 2), (49, .ireturn, 1), (50, .aload_n 0, 1), (51, .getfield 16, 3), (54, .invokevirtual 229, 3), (57, .istore 5, 2), (59, .iload 5, 2), (61, .iconst (-1), 1), (62, .if_icmp .eq 15, 3), (65, .aload_n 0, 1), (66, .getfield 16, 3), (69, .getfield 207, 3), (72, .ldc 210, 2), (74, .if_icmp .lt 5, 3), (77, .iconst (-1), 1), (78, .ireturn, 1), (79, .aload_n 0, 1), (80, .getfield 16, 3), (83, .iload 5, 2), (85, .invokevirtual 216, 3), (88, .pop, 1), (89, .iinc 4 1, 3), (92, .goto (-62), 3), (95, .aload_n 0, 1), (96, .getfield 16, 3), (99, .iload_n 1, 1), (100, .invokevirtual 254, 3), (103, .ifCond .eq 7, 3), (106, .iload_n 3, 1), (107, .goto 4, 3), (110, .iconst (-1), 1), (111, .ireturn, 1)]
def zk_8_25 : List (Nat × Instr × Nat) := zk_8_25_0
def zk_8_26_0 : List (Nat × Instr × Nat) := [(0, .aload_n 0, 1), (1, .iload_n 1, 1), (2, .invokevirtual 87, 3), (5, .astore_n 3, 1), (6, .iload_n 2, 1), (7, .invokestatic 140, 3), (10, .ifCond .ne 7, 3), (13, .iconst 2, 1), (14, .goto 4, 3), (17, .iconst 3, 1), (18, .istore 4, 2), (20, .aload_n 0, 1), (21, .getfield 12, 3), (24, .aload_n 3, 1), (25, .iload 4, 2), (27, .invokevirtual 257, 3), (30, .aload_n 0, 1), (31, .getfield 12, 3), (34, .aload_n 3, 1), (35, .iconst 0, 1), (36, .invokevirtual 257, 3), (39, .ior, 1), (40, .aload_n 0, 1), (41, .getfield 12, 3), (44, .aload_n 3, 1), (45, .iconst 1, 1), (46, .invokevirtual 257, 3), (49, .ior, 1), (50, .ireturn, 1)]
def zk_8_26 : List (Nat × Instr × Nat) := zk_8_26_0
def zk_8_27_0 : List (Nat × Instr × Nat) := [(0, .aload_n 0, 1), (1, .iload_n 1, 1), (2, .invokevirtual 87, 3), (5, .astore_n 3, 1), (6, .aload_n 0, 1), (7, .iload_n 2, 1), (8, .invokevirtual 87, 3), (11, .astore 4, 2), (13, .iload_n 1, 1), (14, .iload_n 2, 1), (15, .if_icmp .ne 14, 3), (18, .new 69, 3), (21, .dup, 1), (22, .ldc_w 260, 3), (25, .invokespecial 73, 3), (28, .athrow, 1), (29, .aload_n 0, 1), (30, .getfield 12, 3), (33, .aload_n 3, 1), (34, .iconst 3, 1), (35, .invokevirtual 257, 3), (38, .istore 5, 2), (40, .aload_n 0, 1), (41, .getfield 12, 3), (44, .aload 4, 2), (46, .iconst 3, 1), (47, .invokevirtual 257, 3), (50, .istore 6, 2), (52, .iload 5, 2), (54, .iload 6, 2), (56, .aload_n 0, 1), (57, .getfield 12, 3), (60, .aload 4, 2), (62, .iconst 2, 1), (63, .invokevirtual 257, 3), (66, .ior, 1), (67, .iand, 1), (68, .iload 6, 2), (70, .aload_n 0, 1), (71, .getfield 12, 3), (74, .aload_n 3, 1), (75, .iconst 2, 1), (76, .invokevirtual 257, 3), (79, .iand, 1), (80, .ior, 1), (81, .ireturn, 1)]
def zk_8_27 : List (Nat × Instr × Nat) := zk_8_27_0
def zk_8_28_0 : List (Nat × Instr × Nat) := [(0, .aload_n 0, 1), (1, .iload_n 1, 1), (2, .invokevirtual 87, 3), (5, .invokevirtual 262, 3), (8, .ireturn, 1)]
def zk_8_28 : List (Nat × Instr × Nat) := zk_8_28_0
def zk_8_29_0 : List (Nat × Instr × Nat) := [(0, .aload_n 0, 1), (1, .iload_n 1, 1), (2, .invokevirtual 87, 3), (5, .invokevirtual 265, 3), (8, .ireturn, 1)]
def zk_8_29 : List (Nat × Instr × Nat) := zk_8_29_0
def zk_8_30_0 : List (Nat × Instr × Nat) := [(0, .aload_n 0, 1), (1, .getfield 51, 3), (4, .getfield 268, 3), (7, .ifCond .ne 10, 3), (10, .aload_n 0, 1), (11, .getfield 51, 3), (14, .invokevirtual 271, 3), (17, .aload_n 0, 1), (18, .getfield 51, 3), (21, .iload_n 1, 1), (22, .invokevirtual 274, 3), (25, .ireturn, 1)]
def zk_8_30 : List (Nat × Instr × Nat) := zk_8_30_0
def zk_8_31_0 : List (Nat × Instr × Nat) := [(0, .iload_n 2, 1), (1, .invokestatic 140, 3), (4, .ifCond .ne 7, 3), (7, .iconst 1, 1), (8, .goto 4, 3), (11, .iconst 0, 1), (12, .istore_n 3, 1), (13, .iload_n 1, 1), (14, .ifCond .lt 20, 3), (17, .iload_n 1, 1), (18, .aload_n 0, 1), (19, .getfield 12, 3), (22, .getfield 277, 3), (25, .if_icmp .ge 9, 3), (28, .iload_n 1, 1), (29, .bipush 20, 2), (31, .if_icmp .lt 5, 3), (34, .iconst (-1), 1), (35, .ireturn, 1), (36, .iload_n 3, 1), (37, .ifCond .eq 15, 3), (40, .aload_n 0, 1), (41, .getfield 12, 3), (44, .getfield 280, 3), (47, .iload_n 1, 1), (48, .iaload, 1), (49, .goto 12, 3), (52, .aload_n 0, 1), (53, .getfield 12, 3), (56, .getfield 283, 3), (59, .iload_n 1, 1), (60, .iaload, 1), (61, .ireturn, 1)]
def zk_8_31 : List (Nat × Instr × Nat) := zk_8_31_0
def zk_8_32_0 : List (Nat × Instr × Nat) := [(0, .iload_n 2, 1), (1, .ifCond .lt 8, 3), (4, .iload_n 2, 1), (5, .iconst 4, 1), (6, .if_icmp .lt 14, 3), (9, .new 131, 3), (12, .dup, 1), (13, .ldc_w 286, 3), (16, .invokespecial 135, 3), (19, .athrow, 1), (20, .aload_n 0, 1), (21, .getfield 12, 3), (24, .getfield 288, 3), (27, .iload_n 1, 1), (28, .iload_n 2, 1), (29, .invokevirtual 292, 3), (32, .ireturn, 1)]
def zk_8_32 : List (Nat × Instr × Nat) := zk_8_32_0
def zk_8_33_0 : List (Nat × Instr × Nat) := [(0, .aload_n 0, 1), (1, .getfield 42, 3), (4, .aload_n 0, 1), (5, .iload_n 1, 1), (6, .invokevirtual 87, 3), (9, .invokevirtual 298, 3), (12, .ireturn, 1)]
def zk_8_33 : List (Nat × Instr × Nat) := zk_8_33_0
def zk_8_34_0 : List (Nat × Instr × Nat) := [(0, .aload_n 0, 1), (1, .getfield 42, 3), (4, .iload_n 1, 1), (5, .invokevirtual 302, 3), (8, .ireturn, 1)]
def zk_8_34 : List (Nat × Instr × Nat) := zk_8_34_0
def zk_8_35_0 : List (Nat × Instr × Nat) := [(0, .aload_n 0, 1), (1, .getfield 19, 3), (4, .aload_n 0, 1), (5, .getfield 12, 3), (8, .invokevirtual 62, 3), (11, .aload_n 0, 1), (12, .iconst 1, 1), (13, .putfield 305, 3), (16, .return_, 1)]
def zk_8_35 : List (Nat × Instr × Nat) := zk_8_35_0
def zk_8_36_0 : List (Nat × Instr × Nat) := [(0, .aload_n 0, 1), (1, .getfield 305, 3), (4, .ifCond .ne 5, 3), (7, .iconst 0, 1), (8, .ireturn, 1), (9, .aload_n 0, 1), (10, .getfield 12, 3), (13, .aload_n 0, 1), (14, .getfield 19, 3), (17, .invokevirtual 62, 3), (20, .aload_n 0, 1), (21, .getfield 51, 3), (24, .invokevirtual 84, 3), (27, .iconst 1, 1), (28, .ireturn, 1)]
def zk_8_36 : List (Nat × Instr × Nat) := zk_8_36_0
def zk_8_37_0 : List (Nat × Instr × Nat) := [(0, .iload_n 1, 1), (1, .tableswitch 138 0 9 #[55, 63, 71, 79, 87, 95, 103, 111, 119, 130], 55), (56, .aload_n 0, 1), (57, .getfield 12, 3), (60, .getfield 151, 3), (63, .ireturn, 1), (64, .aload_n 0, 1), (65, .getfield 12, 3), (68, .getfield 76, 3), (71, .ireturn, 1), (72, .aload_n 0, 1), (73, .getfield 12, 3), (76, .getfield 207, 3), (79, .ireturn, 1), (80, .aload_n 0, 1), (81, .getfield 12, 3), (84, .invokevirtual 308, 3), (87, .ireturn, 1), (88, .aload_n 0, 1), (89, .getfield 12, 3), (92, .invokevirtual 311, 3), (95, .ireturn, 1), (96, .aload_n 0, 1), (97, .getfield 12, 3), (100, .invokevirtual 314, 3), (103, .ireturn, 1), (104, .aload_n 0, 1), (105, .getfield 12, 3), (108, .invokevirtual 317, 3), (111, .ireturn, 1), (112, .aload_n 0, 1), (113, .getfield 12, 3), (116, .getfield 277, 3), (119, .ireturn, 1), (120, .aload_n 0, 1), (121, .getfield 12, 3), (124, .getfield 288, 3), (127, .getfield 320, 3), (130, .ireturn, 1), (131, .aload_n 0, 1), (132, .getfield 12, 3), (135, .getfield 323, 3), (138, .ireturn, 1), (139, .iconst (-1), 1), (140, .ireturn, 1)]
def zk_8_37 : List (Nat × Instr × Nat) := zk_8_37_0
def zk_8_38_0 : List (Nat × Instr × Nat) := [(0, .iload_n 1, 1), (1, .ifCond .lt 14, 3), (4, .iload_n 1, 1), (5, .aload_n 0, 1), (6, .getfield 12, 3), (9, .getfield 151, 3), (12, .if_icmp .lt 14, 3), (15, .new 170, 3), (18, .dup, 1), (19, .ldc_w 326, 3), (22, .invokespecial 174, 3), (25, .athrow, 1), (26, .aload_n 0, 1), (27, .getfield 12, 3), (30, .iload_n 1, 1), (31, .invokevirtual 154, 3), (34, .areturn, 1)]
def zk_8_38 : List (Nat × Instr × Nat) := zk_8_38_0
def zk_8_39_0 : List (Nat × Instr × Nat) := [(0, .iload_n 0, 1), (1, .ifCond .lt 9, 3), (4, .iload_n 0, 1), (5, .bipush 32, 2), (7, .if_icmp .lt 14, 3), (10, .new 170, 3), (13, .dup, 1), (14, .ldc_w 328, 3), (17, .invokespecial 174, 3), (20, .athrow, 1), (21, .iload_n 0, 1), (22, .ireturn, 1)]
def zk_8_39 : List (Nat × Instr × Nat) := zk_8_39_0
def zk_8_40_0 : List (Nat × Instr × Nat) := [(0, .iload_n 0, 1), (1, .ifCond .lt 8, 3), (4, .iload_n 0, 1), (5, .iconst 1, 1), (6, .if_icmp .le 14, 3), (9, .new 131, 3), (12, .dup, 1), (13, .ldc_w 330, 3), (16, .invokespecial 135, 3), (19, .athrow, 1), (20, .iload_n 0, 1), (21, .ireturn, 1)]
def zk_8_40 : List (Nat × Instr × Nat) := zk_8_40_0
def zk_8_41_0 : List (Nat × Instr × Nat) := [(0, .iload_n 0, 1), (1, .iconst 1, 1), (2, .if_icmp .lt 9, 3), (5, .iload_n 0, 1), (6, .bipush 100, 2), (8, .if_icmp .le 13, 3), (11, .new 69, 3), (14, .dup, 1), (15, .ldc 246, 2), (17, .invokespecial 73, 3), (20, .athrow, 1), (21, .iload_n 0, 1), (22, .ireturn, 1)]
def zk_8_41 : List (Nat × Instr × Nat) := zk_8_41_0
def zmc_8 : List zMt := [(yX8_init, cX8_init, 1, (none : Option FieldType), [], zk_8_0),
  (yX8_feed, cX8_feed, 6, (some FieldType.int), [], zk_8_1),
  (yX8_feedOne, cX8_feedOne, 3, (none : Option FieldType), [], zk_8_2),
  (yX8_end, cX8_end, 2, (some FieldType.boolean), [], zk_8_3),
  (yX8_machine, cX8_machine, 1, (some FieldType.int), [], zk_8_4),
  (yX8_fault, cX8_fault, 1, (some FieldType.int), [], zk_8_5),
  (yX8_thread, cX8_thread, 4, (some FieldType.int), [], zk_8_6),
  (yX8_leftOut, cX8_leftOut, 4, (some FieldType.int), [], zk_8_7),
  (yX8_blocks, cX8_blocks, 4, (some FieldType.int), [], zk_8_8),
  (yX8_fell, cX8_fell, 5, (some FieldType.int), [], zk_8_9),
  (yX8_word, cX8_word, 2, (some FieldType.int), [], zk_8_10),
  (yX8_sees, cX8_sees, 4, (some FieldType.int), [], zk_8_11),
  (yX8_lock, cX8_lock, 4, (some FieldType.int), [], zk_8_12),
  (yX8_term, cX8_term, 2, (some FieldType.int), [], zk_8_13),
  (yX8_deed, cX8_deed, 6, (some FieldType.int), [], zk_8_14),
  (yX8_step, cX8_step, 3, (some FieldType.int), [], zk_8_15),
  (yX8_run, cX8_run, 2, (some FieldType.int), [], zk_8_16),
  (yX8_chance, cX8_chance, 2, (some FieldType.int), [], zk_8_17),
  (yX8_goOn, cX8_goOn, 5, (some FieldType.int), [], zk_8_18),
  (yX8_poke, cX8_poke, 4, (some FieldType.int), [], zk_8_19),
  (yX8_tune, cX8_tune, 4, (some FieldType.int), [], zk_8_20),
  (yX8_seed, cX8_seed, 3, (some FieldType.int), [], zk_8_21),
  (yX8_due, cX8_due, 2, (some FieldType.int), [], zk_8_22),
  (yX8_quickest, cX8_quickest, 7, (some FieldType.int), [], zk_8_23),
  (yX8_plain, cX8_plain, 1, (some FieldType.int), [], zk_8_24),
  (yX8_ticksAhead, cX8_ticksAhead, 6, (some FieldType.int), [], zk_8_25),
  (yX8_touches, cX8_touches, 5, (some FieldType.int), [], zk_8_26),
  (yX8_rivals, cX8_rivals, 7, (some FieldType.int), [], zk_8_27),
  (yX8_nest, cX8_nest, 2, (some FieldType.int), [], zk_8_28),
  (yX8_parts, cX8_parts, 2, (some FieldType.int), [], zk_8_29),
  (yX8_serial, cX8_serial, 2, (some FieldType.int), [], zk_8_30),
  (yX8_output, cX8_output, 4, (some FieldType.int), [], zk_8_31),
  (yX8_log, cX8_log, 3, (some FieldType.int), [], zk_8_32),
  (yX8_text, cX8_text, 2, (some FieldType.int), [], zk_8_33),
  (yX8_octet, cX8_octet, 2, (some FieldType.int), [], zk_8_34),
  (yX8_image, cX8_image, 1, (none : Option FieldType), [], zk_8_35),
  (yX8_back, cX8_back, 1, (some FieldType.boolean), [], zk_8_36),
  (yX8_count, cX8_count, 2, (some FieldType.int), [], zk_8_37),
  (yX8_strandOf, cX8_strandOf, 2, (some (FieldType.object "ElidedLocks$Strand")), [], zk_8_38),
  (yX8_wordOf, cX8_wordOf, 1, (some FieldType.int), [], zk_8_39),
  (yX8_whatOfTwo, cX8_whatOfTwo, 1, (some FieldType.int), [], zk_8_40),
  (yX8_ticksOf, cX8_ticksOf, 1, (some FieldType.int), [], zk_8_41)]
def zk_9_0_0 : List (Nat × Instr × Nat) := [(0, .aload_n 0, 1), (1, .getfield 3, 3), (4, .ireturn, 1)]
def zk_9_0 : List (Nat × Instr × Nat) := zk_9_0_0
def zk_9_1_0 : List (Nat × Instr × Nat) := [(0, .iload_n 1, 1), (1, .ifCond .eq 8, 3), (4, .aload_n 0, 1), (5, .iload_n 2, 1), (6, .putfield 3, 3), (9, .iload_n 1, 1), (10, .ireturn, 1)]
def zk_9_1 : List (Nat × Instr × Nat) := zk_9_1_0
def zk_9_2_0 : List (Nat × Instr × Nat) := [(0, .iload_n 0, 1), (1, .iload_n 1, 1), (2, .if_icmp .lt 12, 3), (5, .iload_n 0, 1), (6, .iload_n 2, 1), (7, .if_icmp .gt 7, 3), (10, .iconst 1, 1), (11, .goto 4, 3), (14, .iconst 0, 1), (15, .ireturn, 1)]
def zk_9_2 : List (Nat × Instr × Nat) := zk_9_2_0
def zk_9_3_0 : List (Nat × Instr × Nat) := [(0, .iload_n 0, 1), (1, .iload_n 1, 1), (2, .iushr, 1), (3, .iconst 1, 1), (4, .iand, 1), (5, .iconst 1, 1), (6, .if_icmp .ne 7, 3), (9, .iconst 1, 1), (10, .goto 4, 3), (13, .iconst 0, 1), (14, .ireturn, 1)]
def zk_9_3 : List (Nat × Instr × Nat) := zk_9_3_0
def zk_9_4_0 : List (Nat × Instr × Nat) := [(0, .iconst 0, 1), (1, .istore_n 1, 1), (2, .iconst 0, 1), (3, .istore_n 2, 1), (4, .iload_n 2, 1), (5, .bipush 32, 2), (7, .if_icmp .ge 17, 3), (10, .iload_n 1, 1), (11, .iload_n 0, 1), (12, .iload_n 2, 1), (13, .iushr, 1), (14, .iconst 1, 1), (15, .iand, 1), (16, .iadd, 1), (17, .istore_n 1, 1), (18, .iinc 2 1, 3), (21, .goto (-17), 3), (24, .iload_n 1, 1), (25, .ireturn, 1)]
def zk_9_4 : List (Nat × Instr × Nat) := zk_9_4_0
def zk_9_5_0 : List (Nat × Instr × Nat) := [(0, .aload_n 0, 1), (1, .invokespecial 7, 3), (4, .aload_n 0, 1), (5, .sipush 788, 3), (8, .newarray .int, 2), (10, .putfield 13, 3), (13, .aload_n 0, 1), (14, .sipush 788, 3), (17, .newarray .int, 2), (19, .putfield 17, 3), (22, .aload_n 0, 1), (23, .sipush 788, 3), (26, .newarray .int, 2), (28, .putfield 20, 3), (31, .aload_n 0, 1), (32, .sipush 400, 3), (35, .newarray .byte, 2), (37, .putfield 23, 3), (40, .aload_n 0, 1), (41, .iconst (-1), 1), (42, .putfield 27, 3), (45, .aload_n 0, 1), (46, .iconst 5, 1), (47, .newarray .int, 2), (49, .putfield 30, 3), (52, .aload_n 0, 1), (53, .sipush 891, 3), (56, .newarray .int, 2), (58, .putfield 33, 3), (61, .aload_n 0, 1), (62, .bipush 10, 2), (64, .newarray .int, 2), (66, .putfield 36, 3), (69, .aload_n 0, 1), (70, .sipush 400, 3), (73, .newarray .byte, 2), (75, .putfield 39, 3), (78, .aload_n 0, 1), (79, .getfield 13, 3), (82, .iconst 0, 1), (83, .iconst 2, 1), (84, .iastore, 1), (85, .aload_n 0, 1), (86, .getfield 13, 3), (89, .iconst 1, 1), (90, .iconst 3, 1), (91, .iastore, 1), (92, .aload_n 0, 1), (93, .getfield 13, 3), (96, .iconst 2, 1), (97, .iconst 2, 1), (98, .iastore, 1), (99, .aload_n 0, 1), (100, .getfield 13, 3), (103, .iconst 3, 1), (104, .iconst 4, 1), (105, .iastore, 1), (106, .aload_n 0, 1), (107, .getfield 13, 3), (110, .iconst 4, 1), (111, .bipush 8, 2), (113, .iastore, 1), (114, .aload_n 0, 1), (115, .getfield 13, 3), (118, .iconst 5, 1), (119, .iconst 1, 1), (120, .iastore, 1), (121, .aload_n 0, 1), (122, .getfield 13, 3), (125, .bipush 6, 2), (127, .iconst 4, 1), (128, .iastore, 1), (129, .aload_n 0, 1), (130, .getfield 13, 3), (133, .bipush 7, 2), (135, .iconst 2, 1), (136, .iastore, 1), (137, .aload_n 0, 1), (138, .getfield 13, 3), (141, .bipush 12, 2), (143, .iconst (-1), 1), (144, .iastore, 1), (145, .aload_n 0, 1), (146, .getfield 13, 3), (149, .bipush 13, 2), (151, .iconst 1, 1), (152, .iastore, 1), (153, .iconst 0, 1), (154, .istore_n 1, 1), (155, .iload_n 1, 1), (156, .iconst 4, 1), (157, .if_icmp .ge 35, 3), (160, .aload_n 0, 1), (161, .getfield 13, 3), (164, .bipush 16, 2), (166, .iload_n 1, 1), (167, .iadd, 1), (168, .bipush 16, 2), (170, .iconst 4, 1), (171, .iload_n 1, 1)]
def zk_9_5_1 : List (Nat × Instr × Nat) := [(172, .imul, 1), (173, .iadd, 1), (174, .iastore, 1), (175, .aload_n 0, 1), (176, .getfield 13, 3), (179, .bipush 20, 2), (181, .iload_n 1, 1), (182, .iadd, 1), (183, .bipush 8, 2), (185, .iastore, 1), (186, .iinc 1 1, 3), (189, .goto (-34), 3), (192, .return_, 1)]
def zk_9_5 : List (Nat × Instr × Nat) := zk_9_5_0 ++ (zk_9_5_1)
def zk_9_6_0 : List (Nat × Instr × Nat) := [(0, .iconst 0, 1), (1, .istore_n 2, 1), (2, .iload_n 2, 1), (3, .sipush 788, 3), (6, .if_icmp .ge 15, 3), (9, .aload_n 1, 1), (10, .iload_n 2, 1), (11, .aload_n 0, 1), (12, .iload_n 2, 1), (13, .iaload, 1), (14, .iastore, 1), (15, .iinc 2 1, 3), (18, .goto (-16), 3), (21, .return_, 1)]
def zk_9_6 : List (Nat × Instr × Nat) := zk_9_6_0
def zk_9_7_0 : List (Nat × Instr × Nat) := [(0, .aload_n 0, 1), (1, .iconst 0, 1), (2, .putfield 3, 3), (5, .aload_n 0, 1), (6, .getfield 13, 3), (9, .aload_n 0, 1), (10, .getfield 17, 3), (13, .invokestatic 42, 3), (16, .aload_n 0, 1), (17, .iconst 1, 1), (18, .putfield 46, 3), (21, .return_, 1)]
def zk_9_7 : List (Nat × Instr × Nat) := zk_9_7_0
def zk_9_8_0 : List (Nat × Instr × Nat) := [(0, .aload_n 0, 1), (1, .iconst 0, 1), (2, .putfield 3, 3), (5, .aload_n 0, 1), (6, .getfield 46, 3), (9, .ifCond .ne 5, 3), (12, .iconst 0, 1), (13, .ireturn, 1), (14, .aload_n 0, 1), (15, .getfield 17, 3), (18, .aload_n 0, 1), (19, .getfield 13, 3), (22, .invokestatic 42, 3), (25, .iconst 1, 1), (26, .ireturn, 1)]
def zk_9_8 : List (Nat × Instr × Nat) := zk_9_8_0
def zk_9_9_0 : List (Nat × Instr × Nat) := [(0, .aload_n 0, 1), (1, .getfield 13, 3), (4, .bipush 9, 2), (6, .iaload, 1), (7, .ireturn, 1)]
def zk_9_9 : List (Nat × Instr × Nat) := zk_9_9_0
def zk_9_10_0 : List (Nat × Instr × Nat) := [(0, .sipush 376, 3), (3, .bipush 103, 2), (5, .iload_n 0, 1), (6, .imul, 1), (7, .iadd, 1), (8, .iload_n 1, 1), (9, .iadd, 1), (10, .ireturn, 1)]
def zk_9_10 : List (Nat × Instr × Nat) := zk_9_10_0
def zk_9_11_0 : List (Nat × Instr × Nat) := [(0, .aload_n 0, 1), (1, .getfield 13, 3), (4, .iload_n 1, 1), (5, .iload_n 2, 1), (6, .invokestatic 50, 3), (9, .iaload, 1), (10, .ireturn, 1)]
def zk_9_11 : List (Nat × Instr × Nat) := zk_9_11_0
def zk_9_12_0 : List (Nat × Instr × Nat) := [(0, .aload_n 0, 1), (1, .iload_n 1, 1), (2, .iconst 0, 1), (3, .invokevirtual 54, 3), (6, .aload_n 0, 1), (7, .iload_n 1, 1), (8, .bipush 22, 2), (10, .invokevirtual 54, 3), (13, .if_icmp .ne 7, 3), (16, .iconst 1, 1), (17, .goto 4, 3), (20, .iconst 0, 1), (21, .ireturn, 1)]
def zk_9_12 : List (Nat × Instr × Nat) := zk_9_12_0
def zk_9_13_0 : List (Nat × Instr × Nat) := [(0, .aload_n 0, 1), (1, .iload_n 1, 1), (2, .bipush 55, 2), (4, .iconst 2, 1), (5, .iload_n 2, 1), (6, .imul, 1), (7, .iadd, 1), (8, .iload_n 3, 1), (9, .iadd, 1), (10, .invokevirtual 54, 3), (13, .ireturn, 1)]
def zk_9_13 : List (Nat × Instr × Nat) := zk_9_13_0
def zk_9_14_0 : List (Nat × Instr × Nat) := [(0, .iconst 1, 1), (1, .iload_n 1, 1), (2, .aload_n 0, 1), (3, .getfield 13, 3), (6, .iconst 0, 1), (7, .iaload, 1), (8, .idiv, 1), (9, .ishl, 1), (10, .ireturn, 1)]
def zk_9_14 : List (Nat × Instr × Nat) := zk_9_14_0
def zk_9_15_0 : List (Nat × Instr × Nat) := [(0, .aload_n 0, 1), (1, .getfield 13, 3), (4, .bipush 15, 2), (6, .iaload, 1), (7, .bipush 60, 2), (9, .if_icmp .ne 53, 3), (12, .iconst 0, 1), (13, .istore 4, 2), (15, .iload 4, 2), (17, .sipush 236, 3), (20, .if_icmp .ge 31, 3), (23, .aload_n 0, 1), (24, .getfield 13, 3), (27, .sipush 136, 3), (30, .iload 4, 2), (32, .iadd, 1), (33, .aload_n 0, 1), (34, .getfield 13, 3), (37, .sipush 140, 3), (40, .iload 4, 2), (42, .iadd, 1), (43, .iaload, 1), (44, .iastore, 1), (45, .iinc 4 1, 3), (48, .goto (-33), 3), (51, .aload_n 0, 1), (52, .getfield 13, 3), (55, .bipush 15, 2), (57, .dup2, 1), (58, .iaload, 1), (59, .iconst 1, 1), (60, .isub, 1), (61, .iastore, 1), (62, .sipush 136, 3), (65, .iconst 4, 1), (66, .aload_n 0, 1), (67, .getfield 13, 3), (70, .bipush 15, 2), (72, .iaload, 1), (73, .imul, 1), (74, .iadd, 1), (75, .istore 4, 2), (77, .aload_n 0, 1), (78, .getfield 13, 3), (81, .iload 4, 2), (83, .aload_n 0, 1), (84, .getfield 13, 3), (87, .bipush 11, 2), (89, .iaload, 1), (90, .iastore, 1), (91, .aload_n 0, 1), (92, .getfield 13, 3), (95, .iload 4, 2), (97, .iconst 1, 1), (98, .iadd, 1), (99, .iload_n 1, 1), (100, .iastore, 1), (101, .aload_n 0, 1), (102, .getfield 13, 3), (105, .iload 4, 2), (107, .iconst 2, 1), (108, .iadd, 1), (109, .iload_n 2, 1), (110, .iastore, 1), (111, .aload_n 0, 1), (112, .getfield 13, 3), (115, .iload 4, 2), (117, .iconst 3, 1), (118, .iadd, 1), (119, .iload_n 3, 1), (120, .iastore, 1), (121, .aload_n 0, 1), (122, .getfield 13, 3), (125, .bipush 15, 2), (127, .dup2, 1), (128, .iaload, 1), (129, .iconst 1, 1), (130, .iadd, 1), (131, .iastore, 1), (132, .return_, 1)]
def zk_9_15 : List (Nat × Instr × Nat) := zk_9_15_0
def zk_9_16_0 : List (Nat × Instr × Nat) := [(0, .aload_n 0, 1), (1, .getfield 13, 3), (4, .iload_n 1, 1), (5, .iconst 2, 1), (6, .invokestatic 50, 3), (9, .iconst 0, 1), (10, .iastore, 1), (11, .aload_n 0, 1), (12, .getfield 13, 3), (15, .iload_n 1, 1), (16, .bipush 10, 2), (18, .invokestatic 50, 3), (21, .iconst 0, 1), (22, .iastore, 1), (23, .aload_n 0, 1), (24, .getfield 13, 3), (27, .iload_n 1, 1), (28, .bipush 15, 2), (30, .invokestatic 50, 3), (33, .iconst 0, 1), (34, .iastore, 1), (35, .aload_n 0, 1), (36, .getfield 13, 3), (39, .iload_n 1, 1), (40, .bipush 16, 2), (42, .invokestatic 50, 3), (45, .iconst 0, 1), (46, .iastore, 1), (47, .aload_n 0, 1), (48, .getfield 13, 3), (51, .iload_n 1, 1), (52, .bipush 17, 2), (54, .invokestatic 50, 3), (57, .iconst 0, 1), (58, .iastore, 1), (59, .return_, 1)]
def zk_9_16 : List (Nat × Instr × Nat) := zk_9_16_0
def zk_9_17_0 : List (Nat × Instr × Nat) := [(0, .aload_n 0, 1), (1, .iload_n 1, 1), (2, .bipush 11, 2), (4, .invokevirtual 54, 3), (7, .istore_n 3, 1), (8, .aload_n 0, 1), (9, .getfield 13, 3), (12, .iload_n 1, 1), (13, .iconst 0, 1), (14, .invokestatic 50, 3), (17, .aload_n 0, 1), (18, .iload_n 1, 1), (19, .bipush 18, 2), (21, .invokevirtual 54, 3), (24, .iastore, 1), (25, .aload_n 0, 1), (26, .getfield 13, 3), (29, .iload_n 1, 1), (30, .iconst 1, 1), (31, .invokestatic 50, 3), (34, .aload_n 0, 1), (35, .iload_n 1, 1), (36, .bipush 19, 2), (38, .invokevirtual 54, 3), (41, .iastore, 1), (42, .aload_n 0, 1), (43, .getfield 13, 3), (46, .iload_n 1, 1), (47, .bipush 21, 2), (49, .invokestatic 50, 3), (52, .iconst 0, 1), (53, .iastore, 1), (54, .aload_n 0, 1), (55, .getfield 13, 3), (58, .iload_n 1, 1), (59, .iconst 3, 1), (60, .invokestatic 50, 3), (63, .dup2, 1), (64, .iaload, 1), (65, .iconst 1, 1), (66, .iadd, 1), (67, .iastore, 1), (68, .aload_n 0, 1), (69, .getfield 13, 3), (72, .iload_n 1, 1), (73, .iconst 5, 1), (74, .iload_n 2, 1), (75, .iadd, 1), (76, .invokestatic 50, 3), (79, .dup2, 1), (80, .iaload, 1), (81, .iconst 1, 1), (82, .iadd, 1), (83, .iastore, 1), (84, .aload_n 0, 1), (85, .getfield 13, 3), (88, .bipush 20, 2), (90, .iload_n 3, 1), (91, .iadd, 1), (92, .iconst 0, 1), (93, .aload_n 0, 1), (94, .getfield 13, 3), (97, .bipush 20, 2), (99, .iload_n 3, 1), (100, .iadd, 1), (101, .iaload, 1), (102, .aload_n 0, 1), (103, .getfield 13, 3), (106, .bipush 6, 2), (108, .iaload, 1), (109, .isub, 1), (110, .invokestatic 57, 3), (113, .iastore, 1), (114, .aload_n 0, 1), (115, .iload_n 1, 1), (116, .invokevirtual 62, 3), (119, .aload_n 0, 1), (120, .iload_n 1, 1), (121, .iconst 2, 1), (122, .iload_n 2, 1), (123, .invokevirtual 66, 3), (126, .return_, 1)]
def zk_9_17 : List (Nat × Instr × Nat) := zk_9_17_0
def zk_9_18_0 : List (Nat × Instr × Nat) := [(0, .aload_n 0, 1), (1, .iload_n 1, 1), (2, .iload_n 2, 1), (3, .invokevirtual 70, 3), (6, .aload_n 0, 1), (7, .iconst 1, 1), (8, .putfield 74, 3), (11, .return_, 1)]
def zk_9_18 : List (Nat × Instr × Nat) := zk_9_18_0
def zk_9_19_0 : List (Nat × Instr × Nat) := [(0, .iconst 0, 1), (1, .istore 4, 2), (3, .iconst 0, 1), (4, .istore 5, 2), (6, .iload 5, 2), (8, .aload_n 0, 1), (9, .invokevirtual 77, 3), (12, .if_icmp .ge 62, 3), (15, .aload_n 0, 1), (16, .iload 5, 2), (18, .bipush 16, 2), (20, .invokevirtual 54, 3), (23, .iload_n 3, 1), (24, .ifCond .eq 14, 3), (27, .aload_n 0, 1), (28, .iload 5, 2), (30, .bipush 15, 2), (32, .invokevirtual 54, 3), (35, .goto 4, 3), (38, .iconst 0, 1), (39, .ior, 1), (40, .istore 6, 2), (42, .iload 4, 2), (44, .iload 5, 2), (46, .iload_n 1, 1), (47, .if_icmp .eq 17, 3), (50, .iload 6, 2), (52, .iload_n 2, 1), (53, .iand, 1), (54, .ifCond .eq 10, 3), (57, .iconst 1, 1), (58, .iload 5, 2), (60, .ishl, 1), (61, .goto 4, 3), (64, .iconst 0, 1), (65, .ior, 1), (66, .istore 4, 2), (68, .iinc 5 1, 3), (71, .goto (-65), 3), (74, .iload 4, 2), (76, .ireturn, 1)]
def zk_9_19 : List (Nat × Instr × Nat) := zk_9_19_0
def zk_9_20_0 : List (Nat × Instr × Nat) := [(0, .iconst 0, 1), (1, .istore_n 3, 1), (2, .iconst 0, 1), (3, .istore 4, 2), (5, .iload 4, 2), (7, .aload_n 0, 1), (8, .invokevirtual 77, 3), (11, .if_icmp .ge 46, 3), (14, .iload_n 3, 1), (15, .ifCond .ne 30, 3), (18, .iload_n 2, 1), (19, .iload 4, 2), (21, .invokestatic 81, 3), (24, .ifCond .eq 25, 3), (27, .aload_n 0, 1), (28, .iload 4, 2), (30, .bipush 20, 2), (32, .invokevirtual 54, 3), (35, .aload_n 0, 1), (36, .iload_n 1, 1), (37, .bipush 20, 2), (39, .invokevirtual 54, 3), (42, .if_icmp .ge 7, 3), (45, .iconst 1, 1), (46, .goto 4, 3), (49, .iconst 0, 1), (50, .istore_n 3, 1), (51, .iinc 4 1, 3), (54, .goto (-49), 3), (57, .iload_n 3, 1), (58, .ifCond .eq 28, 3), (61, .aload_n 0, 1), (62, .iload_n 1, 1), (63, .iconst 2, 1), (64, .invokevirtual 54, 3), (67, .iconst 1, 1), (68, .if_icmp .ne 18, 3), (71, .aload_n 0, 1), (72, .getfield 13, 3), (75, .bipush 8, 2), (77, .iaload, 1), (78, .iconst 1, 1), (79, .if_icmp .ne 7, 3), (82, .iconst 1, 1), (83, .goto 4, 3), (86, .iconst 0, 1), (87, .ireturn, 1)]
def zk_9_20 : List (Nat × Instr × Nat) := zk_9_20_0
def zk_9_21_0 : List (Nat × Instr × Nat) := [(0, .iload_n 1, 1), (1, .iconst (-1), 1), (2, .if_icmp .eq 20, 3), (5, .aload_n 0, 1), (6, .iload_n 1, 1), (7, .iload_n 2, 1), (8, .invokevirtual 85, 3), (11, .ifCond .eq 11, 3), (14, .aload_n 0, 1), (15, .iload_n 1, 1), (16, .iconst 0, 1), (17, .invokevirtual 88, 3), (20, .iconst 0, 1), (21, .ireturn, 1), (22, .iconst 0, 1), (23, .istore_n 3, 1), (24, .iload_n 3, 1), (25, .aload_n 0, 1), (26, .invokevirtual 77, 3), (29, .if_icmp .ge 23, 3), (32, .iload_n 2, 1), (33, .iload_n 3, 1), (34, .invokestatic 81, 3), (37, .ifCond .eq 9, 3), (40, .aload_n 0, 1), (41, .iload_n 3, 1), (42, .iconst 0, 1), (43, .invokevirtual 70, 3), (46, .iinc 3 1, 3), (49, .goto (-25), 3), (52, .iconst 1, 1), (53, .ireturn, 1)]
def zk_9_21 : List (Nat × Instr × Nat) := zk_9_21_0
def zk_9_22_0 : List (Nat × Instr × Nat) := [(0, .aload_n 0, 1), (1, .iload_n 1, 1), (2, .bipush 17, 2), (4, .invokevirtual 54, 3), (7, .iload_n 2, 1), (8, .invokestatic 81, 3), (11, .ifCond .eq 15, 3), (14, .aload_n 0, 1), (15, .iload_n 1, 1), (16, .bipush 23, 2), (18, .iload_n 2, 1), (19, .iadd, 1), (20, .invokevirtual 54, 3), (23, .goto 12, 3), (26, .aload_n 0, 1), (27, .getfield 13, 3), (30, .bipush 32, 2), (32, .iload_n 2, 1), (33, .iadd, 1), (34, .iaload, 1), (35, .ireturn, 1)]
def zk_9_22 : List (Nat × Instr × Nat) := zk_9_22_0
def zk_9_23_0 : List (Nat × Instr × Nat) := [(0, .aload_n 0, 1), (1, .iload_n 1, 1), (2, .aload_n 0, 1), (3, .iload_n 1, 1), (4, .aload_n 0, 1), (5, .iload_n 2, 1), (6, .invokevirtual 91, 3), (9, .iconst 0, 1), (10, .invokevirtual 95, 3), (13, .invokevirtual 99, 3), (16, .ifCond .ne 5, 3), (19, .iconst 0, 1), (20, .ireturn, 1), (21, .aload_n 0, 1), (22, .iload_n 1, 1), (23, .iconst 2, 1), (24, .invokevirtual 54, 3), (27, .iconst 1, 1), (28, .if_icmp .ne 22, 3), (31, .aload_n 0, 1), (32, .getfield 13, 3), (35, .iload_n 1, 1), (36, .bipush 15, 2), (38, .invokestatic 50, 3), (41, .dup2, 1), (42, .iaload, 1), (43, .aload_n 0, 1), (44, .iload_n 2, 1), (45, .invokevirtual 91, 3), (48, .ior, 1), (49, .iastore, 1), (50, .iconst 1, 1), (51, .ireturn, 1)]
def zk_9_23 : List (Nat × Instr × Nat) := zk_9_23_0
def zk_9_24_0 : List (Nat × Instr × Nat) := [(0, .aload_n 0, 1), (1, .iload_n 2, 1), (2, .invokevirtual 91, 3), (5, .istore 4, 2), (7, .iload_n 1, 1), (8, .iconst (-1), 1), (9, .if_icmp .eq 17, 3), (12, .aload_n 0, 1), (13, .iload_n 1, 1), (14, .iconst 2, 1), (15, .invokevirtual 54, 3), (18, .iconst 1, 1), (19, .if_icmp .ne 7, 3), (22, .iconst 1, 1), (23, .goto 4, 3), (26, .iconst 0, 1), (27, .istore 5, 2), (29, .iload 5, 2), (31, .ifCond .eq 43, 3), (34, .aload_n 0, 1), (35, .iload_n 1, 1), (36, .bipush 16, 2), (38, .invokevirtual 54, 3), (41, .iload 4, 2), (43, .iand, 1), (44, .ifCond .ne 30, 3), (47, .aload_n 0, 1), (48, .iload_n 1, 1), (49, .bipush 16, 2), (51, .invokevirtual 54, 3), (54, .invokestatic 102, 3), (57, .aload_n 0, 1), (58, .getfield 13, 3), (61, .iconst 3, 1), (62, .iaload, 1), (63, .if_icmp .lt 11, 3), (66, .aload_n 0, 1), (67, .iload_n 1, 1), (68, .iconst 1, 1), (69, .invokevirtual 88, 3), (72, .iconst 0, 1), (73, .ireturn, 1), (74, .aload_n 0, 1), (75, .iload_n 1, 1), (76, .aload_n 0, 1), (77, .iload_n 1, 1), (78, .iload 4, 2), (80, .iconst 1, 1), (81, .invokevirtual 95, 3), (84, .invokevirtual 99, 3), (87, .ifCond .ne 5, 3), (90, .iconst 0, 1), (91, .ireturn, 1), (92, .iload 5, 2), (94, .ifCond .eq 53, 3), (97, .aload_n 0, 1), (98, .getfield 13, 3), (101, .iload_n 1, 1), (102, .bipush 16, 2), (104, .invokestatic 50, 3), (107, .dup2, 1), (108, .iaload, 1), (109, .iload 4, 2), (111, .ior, 1), (112, .iastore, 1), (113, .aload_n 0, 1), (114, .getfield 13, 3), (117, .iload_n 1, 1), (118, .bipush 17, 2), (120, .invokestatic 50, 3), (123, .dup2, 1), (124, .iaload, 1), (125, .iconst 1, 1), (126, .iload_n 2, 1), (127, .ishl, 1), (128, .ior, 1), (129, .iastore, 1), (130, .aload_n 0, 1), (131, .getfield 13, 3), (134, .iload_n 1, 1), (135, .bipush 23, 2), (137, .iload_n 2, 1), (138, .iadd, 1), (139, .invokestatic 50, 3), (142, .iload_n 3, 1), (143, .iastore, 1), (144, .goto 13, 3), (147, .aload_n 0, 1), (148, .getfield 13, 3), (151, .bipush 32, 2), (153, .iload_n 2, 1), (154, .iadd, 1), (155, .iload_n 3, 1), (156, .iastore, 1), (157, .iconst 1, 1), (158, .ireturn, 1)]
def zk_9_24 : List (Nat × Instr × Nat) := zk_9_24_0
def zk_9_25_0 : List (Nat × Instr × Nat) := [(0, .iconst (-1), 1), (1, .istore_n 3, 1), (2, .iconst 0, 1), (3, .istore 4, 2), (5, .iload 4, 2), (7, .aload_n 0, 1), (8, .iload_n 1, 1), (9, .bipush 10, 2), (11, .invokevirtual 54, 3), (14, .if_icmp .ge 30, 3), (17, .aload_n 0, 1), (18, .iload_n 1, 1), (19, .bipush 11, 2), (21, .iload 4, 2), (23, .iadd, 1), (24, .invokevirtual 54, 3), (27, .iload_n 2, 1), (28, .if_icmp .ne 8, 3), (31, .iload 4, 2), (33, .goto 4, 3), (36, .iload_n 3, 1), (37, .istore_n 3, 1), (38, .iinc 4 1, 3), (41, .goto (-36), 3), (44, .iload_n 3, 1), (45, .ireturn, 1)]
def zk_9_25 : List (Nat × Instr × Nat) := zk_9_25_0
def zk_9_26_0 : List (Nat × Instr × Nat) := [(0, .aload_n 0, 1), (1, .getfield 13, 3), (4, .iload_n 1, 1), (5, .bipush 11, 2), (7, .aload_n 0, 1), (8, .iload_n 1, 1), (9, .bipush 10, 2), (11, .invokevirtual 54, 3), (14, .iadd, 1), (15, .invokestatic 50, 3), (18, .iload_n 2, 1), (19, .iastore, 1), (20, .aload_n 0, 1), (21, .getfield 13, 3), (24, .iload_n 1, 1), (25, .bipush 10, 2), (27, .invokestatic 50, 3), (30, .dup2, 1), (31, .iaload, 1), (32, .iconst 1, 1), (33, .iadd, 1), (34, .iastore, 1), (35, .return_, 1)]
def zk_9_26 : List (Nat × Instr × Nat) := zk_9_26_0
def zk_9_27_0 : List (Nat × Instr × Nat) := [(0, .aload_n 0, 1), (1, .getfield 13, 3), (4, .iload_n 1, 1), (5, .iconst 2, 1), (6, .invokestatic 50, 3), (9, .iconst 1, 1), (10, .iastore, 1), (11, .aload_n 0, 1), (12, .getfield 13, 3), (15, .iload_n 1, 1), (16, .bipush 18, 2), (18, .invokestatic 50, 3), (21, .aload_n 0, 1), (22, .iload_n 1, 1), (23, .iconst 0, 1), (24, .invokevirtual 54, 3), (27, .iastore, 1), (28, .aload_n 0, 1), (29, .getfield 13, 3), (32, .iload_n 1, 1), (33, .bipush 19, 2), (35, .invokestatic 50, 3), (38, .aload_n 0, 1), (39, .iload_n 1, 1), (40, .iconst 1, 1), (41, .invokevirtual 54, 3), (44, .iastore, 1), (45, .aload_n 0, 1), (46, .getfield 13, 3), (49, .iload_n 1, 1), (50, .bipush 20, 2), (52, .invokestatic 50, 3), (55, .aload_n 0, 1), (56, .getfield 13, 3), (59, .bipush 11, 2), (61, .iaload, 1), (62, .iastore, 1), (63, .aload_n 0, 1), (64, .getfield 13, 3), (67, .iload_n 1, 1), (68, .bipush 15, 2), (70, .invokestatic 50, 3), (73, .aload_n 0, 1), (74, .aload_n 0, 1), (75, .getfield 13, 3), (78, .bipush 16, 2), (80, .iload_n 2, 1), (81, .iadd, 1), (82, .iaload, 1), (83, .invokevirtual 91, 3), (86, .iastore, 1), (87, .aload_n 0, 1), (88, .iload_n 1, 1), (89, .iload_n 2, 1), (90, .invokevirtual 105, 3), (93, .aload_n 0, 1), (94, .iload_n 1, 1), (95, .iconst 0, 1), (96, .iload_n 2, 1), (97, .invokevirtual 66, 3), (100, .return_, 1)]
def zk_9_27 : List (Nat × Instr × Nat) := zk_9_27_0
def zk_9_28_0 : List (Nat × Instr × Nat) := [(0, .aload_n 0, 1), (1, .getfield 13, 3), (4, .iload_n 1, 1), (5, .iconst 3, 1), (6, .invokestatic 50, 3), (9, .iconst 0, 1), (10, .iastore, 1), (11, .aload_n 0, 1), (12, .getfield 13, 3), (15, .bipush 24, 2), (17, .iload_n 2, 1), (18, .iadd, 1), (19, .dup2, 1), (20, .iaload, 1), (21, .iconst 1, 1), (22, .iadd, 1), (23, .iastore, 1), (24, .aload_n 0, 1), (25, .getfield 13, 3), (28, .bipush 24, 2), (30, .iload_n 2, 1), (31, .iadd, 1), (32, .iaload, 1), (33, .aload_n 0, 1), (34, .getfield 13, 3), (37, .bipush 7, 2), (39, .iaload, 1), (40, .irem, 1), (41, .ifCond .ne 28, 3), (44, .aload_n 0, 1), (45, .getfield 13, 3), (48, .bipush 20, 2), (50, .iload_n 2, 1), (51, .iadd, 1), (52, .bipush 15, 2), (54, .aload_n 0, 1), (55, .getfield 13, 3), (58, .bipush 20, 2), (60, .iload_n 2, 1), (61, .iadd, 1), (62, .iaload, 1), (63, .iconst 1, 1), (64, .iadd, 1), (65, .invokestatic 108, 3), (68, .iastore, 1), (69, .aload_n 0, 1), (70, .iload_n 1, 1), (71, .iconst 3, 1), (72, .iload_n 2, 1), (73, .invokevirtual 66, 3), (76, .return_, 1)]
def zk_9_28 : List (Nat × Instr × Nat) := zk_9_28_0
def zk_9_29_0 : List (Nat × Instr × Nat) := [(0, .aload_n 0, 1), (1, .getfield 13, 3), (4, .bipush 16, 2), (6, .iload_n 2, 1), (7, .iadd, 1), (8, .iaload, 1), (9, .istore_n 3, 1), (10, .aload_n 0, 1), (11, .iload_n 1, 1), (12, .iload_n 3, 1), (13, .invokevirtual 111, 3), (16, .ifCond .ne 5, 3), (19, .iconst 0, 1), (20, .ireturn, 1), (21, .aload_n 0, 1), (22, .iload_n 1, 1), (23, .iload_n 3, 1), (24, .invokevirtual 114, 3), (27, .ifCond .ne 7, 3), (30, .iconst 1, 1), (31, .goto 4, 3), (34, .iconst 0, 1), (35, .istore 4, 2), (37, .aload_n 0, 1), (38, .iload_n 1, 1), (39, .iconst 2, 1), (40, .invokevirtual 54, 3), (43, .iconst 1, 1), (44, .if_icmp .ne 72, 3), (47, .aload_n 0, 1), (48, .iload_n 1, 1), (49, .iload_n 2, 1), (50, .invokevirtual 117, 3), (53, .iconst (-1), 1), (54, .if_icmp .ne 8, 3), (57, .iload 4, 2), (59, .ifCond .ne 25, 3), (62, .aload_n 0, 1), (63, .iload_n 1, 1), (64, .aload_n 0, 1), (65, .iload_n 1, 1), (66, .iload_n 2, 1), (67, .invokevirtual 117, 3), (70, .iconst (-1), 1), (71, .if_icmp .eq 7, 3), (74, .iconst 2, 1), (75, .goto 4, 3), (78, .iconst 4, 1), (79, .invokevirtual 88, 3), (82, .iconst 0, 1), (83, .ireturn, 1), (84, .aload_n 0, 1), (85, .iload_n 1, 1), (86, .bipush 10, 2), (88, .invokevirtual 54, 3), (91, .aload_n 0, 1), (92, .getfield 13, 3), (95, .iconst 2, 1), (96, .iaload, 1), (97, .if_icmp .lt 11, 3), (100, .aload_n 0, 1), (101, .iload_n 1, 1), (102, .iload_n 3, 1), (103, .iconst 1, 1), (104, .invokevirtual 120, 3), (107, .ireturn, 1), (108, .aload_n 0, 1), (109, .iload_n 1, 1), (110, .iload_n 2, 1), (111, .invokevirtual 105, 3), (114, .iconst 1, 1), (115, .ireturn, 1), (116, .iload 4, 2), (118, .ifCond .ne 5, 3), (121, .iconst 0, 1), (122, .ireturn, 1), (123, .aload_n 0, 1), (124, .iload_n 1, 1), (125, .iconst 3, 1), (126, .invokevirtual 54, 3), (129, .aload_n 0, 1), (130, .getfield 13, 3), (133, .iconst 1, 1), (134, .iaload, 1), (135, .if_icmp .ge 30, 3), (138, .aload_n 0, 1), (139, .getfield 13, 3), (142, .bipush 20, 2), (144, .iload_n 2, 1), (145, .iadd, 1), (146, .iaload, 1), (147, .aload_n 0, 1), (148, .getfield 13, 3), (151, .iconst 4, 1), (152, .iaload, 1), (153, .if_icmp .lt 12, 3), (156, .aload_n 0, 1), (157, .iload_n 1, 1), (158, .iload_n 2, 1), (159, .invokevirtual 124, 3)]
def zk_9_29_1 : List (Nat × Instr × Nat) := [(162, .goto 17, 3), (165, .aload_n 0, 1), (166, .iload_n 1, 1), (167, .iload_n 3, 1), (168, .iconst 1, 1), (169, .invokevirtual 120, 3), (172, .pop, 1), (173, .aload_n 0, 1), (174, .iload_n 1, 1), (175, .iload_n 2, 1), (176, .invokevirtual 127, 3), (179, .iconst 1, 1), (180, .ireturn, 1)]
def zk_9_29 : List (Nat × Instr × Nat) := zk_9_29_0 ++ (zk_9_29_1)
def zk_9_30_0 : List (Nat × Instr × Nat) := [(0, .iconst 0, 1), (1, .istore_n 3, 1), (2, .iload_n 3, 1), (3, .bipush 32, 2), (5, .if_icmp .ge 41, 3), (8, .aload_n 0, 1), (9, .iload_n 1, 1), (10, .bipush 17, 2), (12, .invokevirtual 54, 3), (15, .iload_n 3, 1), (16, .invokestatic 81, 3), (19, .ifCond .eq 21, 3), (22, .aload_n 0, 1), (23, .getfield 13, 3), (26, .bipush 32, 2), (28, .iload_n 3, 1), (29, .iadd, 1), (30, .aload_n 0, 1), (31, .iload_n 1, 1), (32, .bipush 23, 2), (34, .iload_n 3, 1), (35, .iadd, 1), (36, .invokevirtual 54, 3), (39, .iastore, 1), (40, .iinc 3 1, 3), (43, .goto (-41), 3), (46, .aload_n 0, 1), (47, .getfield 13, 3), (50, .bipush 20, 2), (52, .iload_n 2, 1), (53, .iadd, 1), (54, .bipush 15, 2), (56, .aload_n 0, 1), (57, .getfield 13, 3), (60, .bipush 20, 2), (62, .iload_n 2, 1), (63, .iadd, 1), (64, .iaload, 1), (65, .aload_n 0, 1), (66, .getfield 13, 3), (69, .iconst 5, 1), (70, .iaload, 1), (71, .iadd, 1), (72, .invokestatic 108, 3), (75, .iastore, 1), (76, .aload_n 0, 1), (77, .getfield 13, 3), (80, .bipush 28, 2), (82, .iload_n 2, 1), (83, .iadd, 1), (84, .dup2, 1), (85, .iaload, 1), (86, .iconst 1, 1), (87, .iadd, 1), (88, .iastore, 1), (89, .aload_n 0, 1), (90, .getfield 13, 3), (93, .iload_n 1, 1), (94, .iconst 3, 1), (95, .invokestatic 50, 3), (98, .iconst 0, 1), (99, .iastore, 1), (100, .aload_n 0, 1), (101, .getfield 13, 3), (104, .iload_n 1, 1), (105, .iconst 4, 1), (106, .invokestatic 50, 3), (109, .dup2, 1), (110, .iaload, 1), (111, .iconst 1, 1), (112, .iadd, 1), (113, .iastore, 1), (114, .aload_n 0, 1), (115, .iload_n 1, 1), (116, .invokevirtual 62, 3), (119, .aload_n 0, 1), (120, .iload_n 1, 1), (121, .iconst 1, 1), (122, .iload_n 2, 1), (123, .invokevirtual 66, 3), (126, .return_, 1)]
def zk_9_30 : List (Nat × Instr × Nat) := zk_9_30_0
def zk_9_31_0 : List (Nat × Instr × Nat) := [(0, .aload_n 0, 1), (1, .iload_n 1, 1), (2, .iload_n 2, 1), (3, .invokevirtual 117, 3), (6, .istore_n 3, 1), (7, .iload_n 3, 1), (8, .iconst (-1), 1), (9, .if_icmp .ne 54, 3), (12, .aload_n 0, 1), (13, .iload_n 1, 1), (14, .iconst 2, 1), (15, .invokevirtual 54, 3), (18, .iconst 1, 1), (19, .if_icmp .ne 7, 3), (22, .iconst 1, 1), (23, .goto 4, 3), (26, .iconst 0, 1), (27, .istore 4, 2), (29, .aload_n 0, 1), (30, .iload_n 1, 1), (31, .aload_n 0, 1), (32, .getfield 13, 3), (35, .bipush 16, 2), (37, .iload_n 2, 1), (38, .iadd, 1), (39, .iaload, 1), (40, .iconst 0, 1), (41, .invokevirtual 120, 3), (44, .ifCond .ne 5, 3), (47, .iconst 0, 1), (48, .ireturn, 1), (49, .iload 4, 2), (51, .ifCond .ne 10, 3), (54, .aload_n 0, 1), (55, .iload_n 1, 1), (56, .iconst 4, 1), (57, .iload_n 2, 1), (58, .invokevirtual 66, 3), (61, .iconst 1, 1), (62, .ireturn, 1), (63, .iload_n 3, 1), (64, .aload_n 0, 1), (65, .iload_n 1, 1), (66, .bipush 10, 2), (68, .invokevirtual 54, 3), (71, .iconst 1, 1), (72, .isub, 1), (73, .if_icmp .eq 11, 3), (76, .aload_n 0, 1), (77, .iload_n 1, 1), (78, .iconst 2, 1), (79, .invokevirtual 88, 3), (82, .iconst 0, 1), (83, .ireturn, 1), (84, .iload_n 3, 1), (85, .ifCond .ne 12, 3), (88, .aload_n 0, 1), (89, .iload_n 1, 1), (90, .iload_n 2, 1), (91, .invokevirtual 130, 3), (94, .goto 18, 3), (97, .aload_n 0, 1), (98, .getfield 13, 3), (101, .iload_n 1, 1), (102, .bipush 10, 2), (104, .invokestatic 50, 3), (107, .dup2, 1), (108, .iaload, 1), (109, .iconst 1, 1), (110, .isub, 1), (111, .iastore, 1), (112, .iconst 1, 1), (113, .ireturn, 1)]
def zk_9_31 : List (Nat × Instr × Nat) := zk_9_31_0
def zk_9_32_0 : List (Nat × Instr × Nat) := [(0, .aload_n 0, 1), (1, .getfield 13, 3), (4, .iload_n 1, 1), (5, .bipush 21, 2), (7, .invokestatic 50, 3), (10, .dup2, 1), (11, .iaload, 1), (12, .iconst 1, 1), (13, .iadd, 1), (14, .iastore, 1), (15, .aload_n 0, 1), (16, .iload_n 1, 1), (17, .bipush 21, 2), (19, .invokevirtual 54, 3), (22, .iload_n 2, 1), (23, .if_icmp .ge 5, 3), (26, .iconst 0, 1), (27, .ireturn, 1), (28, .aload_n 0, 1), (29, .getfield 13, 3), (32, .iload_n 1, 1), (33, .bipush 21, 2), (35, .invokestatic 50, 3), (38, .iconst 0, 1), (39, .iastore, 1), (40, .iconst 1, 1), (41, .ireturn, 1)]
def zk_9_32 : List (Nat × Instr × Nat) := zk_9_32_0
def zk_9_33_0 : List (Nat × Instr × Nat) := [(0, .aload_n 0, 1), (1, .iload_n 1, 1), (2, .iconst 2, 1), (3, .invokevirtual 54, 3), (6, .iconst 1, 1), (7, .if_icmp .ne 11, 3), (10, .aload_n 0, 1), (11, .iload_n 1, 1), (12, .iconst 3, 1), (13, .invokevirtual 88, 3), (16, .iconst 0, 1), (17, .ireturn, 1), (18, .aload_n 0, 1), (19, .getfield 13, 3), (22, .bipush 14, 2), (24, .iaload, 1), (25, .bipush 20, 2), (27, .if_icmp .ge 57, 3), (30, .aload_n 0, 1), (31, .getfield 13, 3), (34, .bipush 96, 2), (36, .iconst 2, 1), (37, .aload_n 0, 1), (38, .getfield 13, 3), (41, .bipush 14, 2), (43, .iaload, 1), (44, .imul, 1), (45, .iadd, 1), (46, .iload_n 1, 1), (47, .iastore, 1), (48, .aload_n 0, 1), (49, .getfield 13, 3), (52, .bipush 96, 2), (54, .iconst 2, 1), (55, .aload_n 0, 1), (56, .getfield 13, 3), (59, .bipush 14, 2), (61, .iaload, 1), (62, .imul, 1), (63, .iadd, 1), (64, .iconst 1, 1), (65, .iadd, 1), (66, .aload_n 0, 1), (67, .iload_n 1, 1), (68, .iconst 1, 1), (69, .invokevirtual 54, 3), (72, .iastore, 1), (73, .aload_n 0, 1), (74, .getfield 13, 3), (77, .bipush 14, 2), (79, .dup2, 1), (80, .iaload, 1), (81, .iconst 1, 1), (82, .iadd, 1), (83, .iastore, 1), (84, .aload_n 0, 1), (85, .iload_n 1, 1), (86, .iconst 5, 1), (87, .aload_n 0, 1), (88, .iload_n 1, 1), (89, .iconst 1, 1), (90, .invokevirtual 54, 3), (93, .invokevirtual 66, 3), (96, .iconst 1, 1), (97, .ireturn, 1)]
def zk_9_33 : List (Nat × Instr × Nat) := zk_9_33_0
def zk_9_34_0 : List (Nat × Instr × Nat) := [(0, .iload_n 2, 1), (1, .tableswitch 143 0 6 #[43, 50, 57, 86, 99, 112, 136], 43), (44, .aload_n 0, 1), (45, .iload_n 1, 1), (46, .iload_n 3, 1), (47, .invokevirtual 133, 3), (50, .ireturn, 1), (51, .aload_n 0, 1), (52, .iload_n 1, 1), (53, .iload_n 3, 1), (54, .invokevirtual 136, 3), (57, .ireturn, 1), (58, .aload_n 0, 1), (59, .iload_n 1, 1), (60, .iload_n 3, 1), (61, .invokevirtual 111, 3), (64, .ifCond .ne 5, 3), (67, .iconst 0, 1), (68, .ireturn, 1), (69, .aload_n 0, 1), (70, .getfield 13, 3), (73, .iload_n 1, 1), (74, .iconst 1, 1), (75, .invokestatic 50, 3), (78, .aload_n 0, 1), (79, .iload_n 1, 1), (80, .iload_n 3, 1), (81, .invokevirtual 114, 3), (84, .iastore, 1), (85, .iconst 1, 1), (86, .ireturn, 1), (87, .aload_n 0, 1), (88, .iload_n 1, 1), (89, .iload_n 3, 1), (90, .aload_n 0, 1), (91, .iload_n 1, 1), (92, .iconst 1, 1), (93, .invokevirtual 54, 3), (96, .invokevirtual 120, 3), (99, .ireturn, 1), (100, .aload_n 0, 1), (101, .getfield 13, 3), (104, .iload_n 1, 1), (105, .iconst 1, 1), (106, .invokestatic 50, 3), (109, .iload_n 3, 1), (110, .iastore, 1), (111, .iconst 1, 1), (112, .ireturn, 1), (113, .aload_n 0, 1), (114, .getfield 13, 3), (117, .iload_n 1, 1), (118, .iconst 1, 1), (119, .invokestatic 50, 3), (122, .aload_n 0, 1), (123, .iload_n 1, 1), (124, .iconst 1, 1), (125, .invokevirtual 54, 3), (128, .iload_n 3, 1), (129, .iadd, 1), (130, .sipush 10000, 3), (133, .irem, 1), (134, .iastore, 1), (135, .iconst 1, 1), (136, .ireturn, 1), (137, .aload_n 0, 1), (138, .iload_n 1, 1), (139, .iload_n 3, 1), (140, .invokevirtual 139, 3), (143, .ireturn, 1), (144, .aload_n 0, 1), (145, .iload_n 1, 1), (146, .invokevirtual 142, 3), (149, .ireturn, 1)]
def zk_9_34 : List (Nat × Instr × Nat) := zk_9_34_0
def zk_9_35_0 : List (Nat × Instr × Nat) := [(0, .aload_n 0, 1), (1, .iconst 0, 1), (2, .putfield 74, 3), (5, .aload_n 0, 1), (6, .iload_n 1, 1), (7, .iconst 0, 1), (8, .invokevirtual 54, 3), (11, .istore_n 2, 1), (12, .aload_n 0, 1), (13, .iload_n 1, 1), (14, .aload_n 0, 1), (15, .iload_n 1, 1), (16, .iload_n 2, 1), (17, .iconst 0, 1), (18, .invokevirtual 146, 3), (21, .aload_n 0, 1), (22, .iload_n 1, 1), (23, .iload_n 2, 1), (24, .iconst 1, 1), (25, .invokevirtual 146, 3), (28, .invokevirtual 150, 3), (31, .istore_n 3, 1), (32, .iload_n 3, 1), (33, .ifCond .eq 60, 3), (36, .aload_n 0, 1), (37, .getfield 13, 3), (40, .iload_n 1, 1), (41, .iconst 0, 1), (42, .invokestatic 50, 3), (45, .dup2, 1), (46, .iaload, 1), (47, .iconst 1, 1), (48, .iadd, 1), (49, .iastore, 1), (50, .aload_n 0, 1), (51, .iload_n 1, 1), (52, .invokevirtual 153, 3), (55, .ifCond .eq 22, 3), (58, .aload_n 0, 1), (59, .iload_n 1, 1), (60, .iconst 2, 1), (61, .invokevirtual 54, 3), (64, .iconst 1, 1), (65, .if_icmp .ne 12, 3), (68, .aload_n 0, 1), (69, .iload_n 1, 1), (70, .iconst 2, 1), (71, .invokevirtual 88, 3), (74, .goto 19, 3), (77, .aload_n 0, 1), (78, .iload_n 1, 1), (79, .invokevirtual 153, 3), (82, .ifCond .eq 11, 3), (85, .aload_n 0, 1), (86, .iload_n 1, 1), (87, .bipush 6, 2), (89, .iconst 0, 1), (90, .invokevirtual 66, 3), (93, .aload_n 0, 1), (94, .getfield 13, 3), (97, .bipush 12, 2), (99, .iload_n 1, 1), (100, .iastore, 1), (101, .aload_n 0, 1), (102, .getfield 13, 3), (105, .bipush 11, 2), (107, .dup2, 1), (108, .iaload, 1), (109, .iconst 1, 1), (110, .iadd, 1), (111, .iastore, 1), (112, .aload_n 0, 1), (113, .getfield 74, 3), (116, .ifCond .eq 7, 3), (119, .iconst (-1), 1), (120, .goto 12, 3), (123, .iload_n 3, 1), (124, .ifCond .eq 7, 3), (127, .iconst 1, 1), (128, .goto 4, 3), (131, .iconst 0, 1), (132, .ireturn, 1)]
def zk_9_35 : List (Nat × Instr × Nat) := zk_9_35_0
def zk_9_36_0 : List (Nat × Instr × Nat) := [(0, .iconst 0, 1), (1, .istore_n 1, 1), (2, .iconst 0, 1), (3, .istore_n 2, 1), (4, .iload_n 2, 1), (5, .aload_n 0, 1), (6, .invokevirtual 77, 3), (9, .if_icmp .ge 27, 3), (12, .iload_n 1, 1), (13, .aload_n 0, 1), (14, .iload_n 2, 1), (15, .invokevirtual 153, 3), (18, .ifCond .eq 9, 3), (21, .iconst 1, 1), (22, .iload_n 2, 1), (23, .ishl, 1), (24, .goto 4, 3), (27, .iconst 0, 1), (28, .ior, 1), (29, .istore_n 1, 1), (30, .iinc 2 1, 3), (33, .goto (-29), 3), (36, .iload_n 1, 1), (37, .ireturn, 1)]
def zk_9_36 : List (Nat × Instr × Nat) := zk_9_36_0
def zk_9_37_0 : List (Nat × Instr × Nat) := [(0, .aload_n 0, 1), (1, .invokevirtual 156, 3), (4, .iconst 1, 1), (5, .aload_n 0, 1), (6, .invokevirtual 77, 3), (9, .ishl, 1), (10, .iconst 1, 1), (11, .isub, 1), (12, .if_icmp .ne 7, 3), (15, .iconst 1, 1), (16, .goto 4, 3), (19, .iconst 0, 1), (20, .ireturn, 1)]
def zk_9_37 : List (Nat × Instr × Nat) := zk_9_37_0
def zk_9_38_0 : List (Nat × Instr × Nat) := [(0, .iconst 1, 1), (1, .istore_n 1, 1), (2, .iload_n 1, 1), (3, .aload_n 0, 1), (4, .invokevirtual 77, 3), (7, .if_icmp .gt 34, 3), (10, .aload_n 0, 1), (11, .getfield 13, 3), (14, .bipush 12, 2), (16, .iaload, 1), (17, .iload_n 1, 1), (18, .iadd, 1), (19, .aload_n 0, 1), (20, .invokevirtual 77, 3), (23, .irem, 1), (24, .istore_n 2, 1), (25, .aload_n 0, 1), (26, .iload_n 2, 1), (27, .invokevirtual 153, 3), (30, .ifCond .ne 5, 3), (33, .iload_n 2, 1), (34, .ireturn, 1), (35, .iinc 1 1, 3), (38, .goto (-36), 3), (41, .iconst (-1), 1), (42, .ireturn, 1)]
def zk_9_38 : List (Nat × Instr × Nat) := zk_9_38_0
def zk_9_39_0 : List (Nat × Instr × Nat) := [(0, .aload_n 0, 1), (1, .getfield 13, 3), (4, .bipush 13, 2), (6, .aload_n 0, 1), (7, .getfield 13, 3), (10, .bipush 13, 2), (12, .iaload, 1), (13, .ldc 159, 2), (15, .imul, 1), (16, .sipush 12345, 3), (19, .iadd, 1), (20, .iastore, 1), (21, .aload_n 0, 1), (22, .getfield 13, 3), (25, .bipush 13, 2), (27, .iaload, 1), (28, .bipush 16, 2), (30, .iushr, 1), (31, .sipush 32767, 3), (34, .iand, 1), (35, .iload_n 1, 1), (36, .irem, 1), (37, .ireturn, 1)]
def zk_9_39 : List (Nat × Instr × Nat) := zk_9_39_0
def zk_9_40_0 : List (Nat × Instr × Nat) := [(0, .aload_n 0, 1), (1, .aload_n 0, 1), (2, .invokevirtual 77, 3), (5, .aload_n 0, 1), (6, .invokevirtual 156, 3), (9, .invokestatic 102, 3), (12, .isub, 1), (13, .invokevirtual 160, 3), (16, .istore_n 1, 1), (17, .iconst 0, 1), (18, .istore_n 2, 1), (19, .iload_n 2, 1), (20, .aload_n 0, 1), (21, .invokevirtual 77, 3), (24, .if_icmp .ge 29, 3), (27, .aload_n 0, 1), (28, .iload_n 2, 1), (29, .invokevirtual 153, 3), (32, .ifCond .eq 6, 3), (35, .goto 12, 3), (38, .iload_n 1, 1), (39, .ifCond .ne 5, 3), (42, .iload_n 2, 1), (43, .ireturn, 1), (44, .iinc 1 (-1), 3), (47, .iinc 2 1, 3), (50, .goto (-31), 3), (53, .iconst (-1), 1), (54, .ireturn, 1)]
def zk_9_40 : List (Nat × Instr × Nat) := zk_9_40_0
def zk_9_41_0 : List (Nat × Instr × Nat) := [(0, .aload_n 0, 1), (1, .iconst 0, 1), (2, .putfield 3, 3), (5, .aload_n 0, 1), (6, .getfield 163, 3), (9, .bipush 20, 2), (11, .iadd, 1), (12, .sipush 400, 3), (15, .if_icmp .le 5, 3), (18, .iconst (-1), 1), (19, .ireturn, 1), (20, .aload_n 0, 1), (21, .getfield 30, 3), (24, .iconst 0, 1), (25, .iload_n 1, 1), (26, .iastore, 1), (27, .aload_n 0, 1), (28, .getfield 30, 3), (31, .iconst 1, 1), (32, .iload_n 2, 1), (33, .iastore, 1), (34, .aload_n 0, 1), (35, .getfield 30, 3), (38, .iconst 2, 1), (39, .iload_n 3, 1), (40, .iastore, 1), (41, .aload_n 0, 1), (42, .getfield 30, 3), (45, .iconst 3, 1), (46, .iload 4, 2), (48, .iastore, 1), (49, .aload_n 0, 1), (50, .getfield 30, 3), (53, .iconst 4, 1), (54, .iload 5, 2), (56, .iastore, 1), (57, .iconst 0, 1), (58, .istore 6, 2), (60, .iload 6, 2), (62, .bipush 20, 2), (64, .if_icmp .ge 42, 3), (67, .aload_n 0, 1), (68, .getfield 23, 3), (71, .aload_n 0, 1), (72, .getfield 163, 3), (75, .iload 6, 2), (77, .iadd, 1), (78, .aload_n 0, 1), (79, .getfield 30, 3), (82, .iload 6, 2), (84, .iconst 4, 1), (85, .idiv, 1), (86, .iaload, 1), (87, .bipush 24, 2), (89, .bipush 8, 2), (91, .iload 6, 2), (93, .iconst 4, 1), (94, .irem, 1), (95, .imul, 1), (96, .isub, 1), (97, .ishr, 1), (98, .i2b, 1), (99, .bastore, 1), (100, .iinc 6 1, 3), (103, .goto (-43), 3), (106, .aload_n 0, 1), (107, .dup, 1), (108, .getfield 163, 3), (111, .bipush 20, 2), (113, .iadd, 1), (114, .putfield 163, 3), (117, .aload_n 0, 1), (118, .getfield 163, 3), (121, .ireturn, 1)]
def zk_9_41 : List (Nat × Instr × Nat) := zk_9_41_0
def zk_9_42_0 : List (Nat × Instr × Nat) := [(0, .aload_n 0, 1), (1, .iconst 0, 1), (2, .putfield 3, 3), (5, .iload_n 1, 1), (6, .ifCond .lt 11, 3), (9, .iload_n 1, 1), (10, .aload_n 0, 1), (11, .getfield 163, 3), (14, .if_icmp .le 5, 3), (17, .iconst 0, 1), (18, .ireturn, 1), (19, .aload_n 0, 1), (20, .iload_n 1, 1), (21, .putfield 163, 3), (24, .iconst 1, 1), (25, .ireturn, 1)]
def zk_9_42 : List (Nat × Instr × Nat) := zk_9_42_0
def zk_9_43_0 : List (Nat × Instr × Nat) := [(0, .aload_n 0, 1), (1, .iconst 0, 1), (2, .putfield 3, 3), (5, .aload_n 0, 1), (6, .getfield 27, 3), (9, .ireturn, 1)]
def zk_9_43 : List (Nat × Instr × Nat) := zk_9_43_0
def zk_9_44_0 : List (Nat × Instr × Nat) := [(0, .aload_n 0, 1), (1, .getfield 166, 3), (4, .aload_n 0, 1), (5, .getfield 169, 3), (8, .if_icmp .ge 33, 3), (11, .aload_n 0, 1), (12, .getfield 23, 3), (15, .aload_n 0, 1), (16, .getfield 166, 3), (19, .baload, 1), (20, .iload_n 1, 1), (21, .if_icmp .lt 20, 3), (24, .aload_n 0, 1), (25, .getfield 23, 3), (28, .aload_n 0, 1), (29, .getfield 166, 3), (32, .baload, 1), (33, .iload_n 2, 1), (34, .if_icmp .gt 7, 3), (37, .iconst 1, 1), (38, .goto 4, 3), (41, .iconst 0, 1), (42, .ireturn, 1)]
def zk_9_44 : List (Nat × Instr × Nat) := zk_9_44_0
def zk_9_45_0 : List (Nat × Instr × Nat) := [(0, .aload_n 0, 1), (1, .bipush 32, 2), (3, .bipush 32, 2), (5, .invokevirtual 172, 3), (8, .ifCond .eq 16, 3), (11, .aload_n 0, 1), (12, .dup, 1), (13, .getfield 166, 3), (16, .iconst 1, 1), (17, .iadd, 1), (18, .putfield 166, 3), (21, .goto (-21), 3), (24, .aload_n 0, 1), (25, .aload_n 0, 1), (26, .getfield 166, 3), (29, .putfield 175, 3), (32, .return_, 1)]
def zk_9_45 : List (Nat × Instr × Nat) := zk_9_45_0
def zk_9_46_0 : List (Nat × Instr × Nat) := [(0, .aload_n 0, 1), (1, .invokevirtual 178, 3), (4, .aload_n 0, 1), (5, .bipush 97, 2), (7, .bipush 122, 2), (9, .invokevirtual 172, 3), (12, .ifCond .eq 16, 3), (15, .aload_n 0, 1), (16, .dup, 1), (17, .getfield 166, 3), (20, .iconst 1, 1), (21, .iadd, 1), (22, .putfield 166, 3), (25, .goto (-21), 3), (28, .return_, 1)]
def zk_9_46 : List (Nat × Instr × Nat) := zk_9_46_0
def zk_9_47_0 : List (Nat × Instr × Nat) := [(0, .aload_n 0, 1), (1, .getfield 166, 3), (4, .aload_n 0, 1), (5, .getfield 175, 3), (8, .isub, 1), (9, .aload_n 1, 1), (10, .invokevirtual 181, 3), (13, .if_icmp .ne 7, 3), (16, .iconst 1, 1), (17, .goto 4, 3), (20, .iconst 0, 1), (21, .istore_n 2, 1), (22, .iconst 0, 1), (23, .istore_n 3, 1), (24, .iload_n 2, 1), (25, .ifCond .eq 42, 3), (28, .iload_n 3, 1), (29, .aload_n 1, 1), (30, .invokevirtual 181, 3), (33, .if_icmp .ge 34, 3), (36, .aload_n 0, 1), (37, .getfield 23, 3), (40, .aload_n 0, 1), (41, .getfield 175, 3), (44, .iload_n 3, 1), (45, .iadd, 1), (46, .baload, 1), (47, .aload_n 1, 1), (48, .iload_n 3, 1), (49, .invokevirtual 186, 3), (52, .if_icmp .ne 7, 3), (55, .iconst 1, 1), (56, .goto 4, 3), (59, .iconst 0, 1), (60, .istore_n 2, 1), (61, .iinc 3 1, 3), (64, .goto (-40), 3), (67, .iload_n 2, 1), (68, .ireturn, 1)]
def zk_9_47 : List (Nat × Instr × Nat) := zk_9_47_0
def zk_9_48_0 : List (Nat × Instr × Nat) := [(0, .aload_n 0, 1), (1, .invokevirtual 178, 3), (4, .aload_n 0, 1), (5, .iload_n 1, 1), (6, .iload_n 1, 1), (7, .invokevirtual 172, 3), (10, .ifCond .ne 5, 3), (13, .iconst 0, 1), (14, .ireturn, 1), (15, .aload_n 0, 1), (16, .dup, 1), (17, .getfield 166, 3), (20, .iconst 1, 1), (21, .iadd, 1), (22, .putfield 166, 3), (25, .iconst 1, 1), (26, .ireturn, 1)]
def zk_9_48 : List (Nat × Instr × Nat) := zk_9_48_0
def zk_9_49_0 : List (Nat × Instr × Nat) := [(0, .aload_n 0, 1), (1, .invokevirtual 178, 3), (4, .iconst 0, 1), (5, .istore_n 3, 1), (6, .aload_n 0, 1), (7, .bipush 48, 2), (9, .bipush 57, 2), (11, .invokevirtual 172, 3), (14, .ifCond .eq 51, 3), (17, .aload_n 0, 1), (18, .getfield 166, 3), (21, .aload_n 0, 1), (22, .getfield 175, 3), (25, .isub, 1), (26, .iconst 4, 1), (27, .if_icmp .ge 23, 3), (30, .bipush 10, 2), (32, .iload_n 3, 1), (33, .imul, 1), (34, .aload_n 0, 1), (35, .getfield 23, 3), (38, .aload_n 0, 1), (39, .getfield 166, 3), (42, .baload, 1), (43, .iadd, 1), (44, .bipush 48, 2), (46, .isub, 1), (47, .goto 4, 3), (50, .iload_n 3, 1), (51, .istore_n 3, 1), (52, .aload_n 0, 1), (53, .dup, 1), (54, .getfield 166, 3), (57, .iconst 1, 1), (58, .iadd, 1), (59, .putfield 166, 3), (62, .goto (-56), 3), (65, .aload_n 0, 1), (66, .getfield 166, 3), (69, .aload_n 0, 1), (70, .getfield 175, 3), (73, .if_icmp .eq 26, 3), (76, .aload_n 0, 1), (77, .getfield 166, 3), (80, .aload_n 0, 1), (81, .getfield 175, 3), (84, .isub, 1), (85, .iconst 4, 1), (86, .if_icmp .gt 13, 3), (89, .iload_n 3, 1), (90, .iload_n 1, 1), (91, .if_icmp .lt 8, 3), (94, .iload_n 3, 1), (95, .iload_n 2, 1), (96, .if_icmp .le 7, 3), (99, .iconst (-1), 1), (100, .goto 4, 3), (103, .iload_n 3, 1), (104, .ireturn, 1)]
def zk_9_49 : List (Nat × Instr × Nat) := zk_9_49_0
def zk_9_50_0 : List (Nat × Instr × Nat) := [(0, .aload_n 0, 1), (1, .iload_n 2, 1), (2, .iload_n 3, 1), (3, .invokevirtual 190, 3), (6, .istore 4, 2), (8, .iload 4, 2), (10, .iconst (-1), 1), (11, .if_icmp .eq 11, 3), (14, .aload_n 0, 1), (15, .getfield 13, 3), (18, .iload_n 1, 1), (19, .iload 4, 2), (21, .iastore, 1), (22, .iload 4, 2), (24, .iconst (-1), 1), (25, .if_icmp .eq 7, 3), (28, .iconst 1, 1), (29, .goto 4, 3), (32, .iconst 0, 1), (33, .ireturn, 1)]
def zk_9_50 : List (Nat × Instr × Nat) := zk_9_50_0
def zk_9_51_0 : List (Nat × Instr × Nat) := [(0, .aload_n 0, 1), (1, .ldc 193, 2), (3, .invokevirtual 195, 3), (6, .ifCond .eq 5, 3), (9, .iconst 0, 1), (10, .ireturn, 1), (11, .aload_n 0, 1), (12, .ldc 199, 2), (14, .invokevirtual 195, 3), (17, .ifCond .eq 5, 3), (20, .iconst 1, 1), (21, .ireturn, 1), (22, .aload_n 0, 1), (23, .ldc 201, 2), (25, .invokevirtual 195, 3), (28, .ifCond .eq 5, 3), (31, .iconst 2, 1), (32, .ireturn, 1), (33, .aload_n 0, 1), (34, .ldc 203, 2), (36, .invokevirtual 195, 3), (39, .ifCond .eq 5, 3), (42, .iconst 3, 1), (43, .ireturn, 1), (44, .aload_n 0, 1), (45, .ldc 205, 2), (47, .invokevirtual 195, 3), (50, .ifCond .eq 5, 3), (53, .iconst 4, 1), (54, .ireturn, 1), (55, .aload_n 0, 1), (56, .ldc 207, 2), (58, .invokevirtual 195, 3), (61, .ifCond .eq 5, 3), (64, .iconst 5, 1), (65, .ireturn, 1), (66, .aload_n 0, 1), (67, .ldc 209, 2), (69, .invokevirtual 195, 3), (72, .ifCond .eq 6, 3), (75, .bipush 6, 2), (77, .ireturn, 1), (78, .aload_n 0, 1), (79, .ldc 211, 2), (81, .invokevirtual 195, 3), (84, .ifCond .eq 8, 3), (87, .bipush 7, 2), (89, .goto 4, 3), (92, .iconst (-1), 1), (93, .ireturn, 1)]
def zk_9_51 : List (Nat × Instr × Nat) := zk_9_51_0
def zk_9_52_0 : List (Nat × Instr × Nat) := [(0, .aload_n 0, 1), (1, .invokevirtual 213, 3), (4, .aload_n 0, 1), (5, .invokevirtual 216, 3), (8, .istore_n 2, 1), (9, .iload_n 2, 1), (10, .iconst (-1), 1), (11, .if_icmp .eq 15, 3), (14, .aload_n 0, 1), (15, .iload_n 1, 1), (16, .bipush 22, 2), (18, .invokevirtual 54, 3), (21, .bipush 24, 2), (23, .if_icmp .ne 5, 3), (26, .iconst 0, 1), (27, .ireturn, 1), (28, .iload_n 1, 1), (29, .bipush 55, 2), (31, .iconst 2, 1), (32, .aload_n 0, 1), (33, .iload_n 1, 1), (34, .bipush 22, 2), (36, .invokevirtual 54, 3), (39, .imul, 1), (40, .iadd, 1), (41, .invokestatic 50, 3), (44, .istore_n 3, 1), (45, .aload_n 0, 1), (46, .getfield 13, 3), (49, .iload_n 3, 1), (50, .iload_n 2, 1), (51, .iastore, 1), (52, .aload_n 0, 1), (53, .getfield 13, 3), (56, .iload_n 3, 1), (57, .iconst 1, 1), (58, .iadd, 1), (59, .iconst 0, 1), (60, .iastore, 1), (61, .aload_n 0, 1), (62, .getfield 13, 3), (65, .iload_n 1, 1), (66, .bipush 22, 2), (68, .invokestatic 50, 3), (71, .dup2, 1), (72, .iaload, 1), (73, .iconst 1, 1), (74, .iadd, 1), (75, .iastore, 1), (76, .iload_n 2, 1), (77, .tableswitch 87 0 6 #[43, 43, 53, 53, 64, 64, 76], 43), (120, .aload_n 0, 1), (121, .iload_n 3, 1), (122, .iconst 1, 1), (123, .iadd, 1), (124, .iconst 0, 1), (125, .iconst 3, 1), (126, .invokevirtual 219, 3), (129, .ireturn, 1), (130, .aload_n 0, 1), (131, .iload_n 3, 1), (132, .iconst 1, 1), (133, .iadd, 1), (134, .iconst 0, 1), (135, .bipush 31, 2), (137, .invokevirtual 219, 3), (140, .ireturn, 1), (141, .aload_n 0, 1), (142, .iload_n 3, 1), (143, .iconst 1, 1), (144, .iadd, 1), (145, .iconst 0, 1), (146, .sipush 999, 3), (149, .invokevirtual 219, 3), (152, .ireturn, 1), (153, .aload_n 0, 1), (154, .iload_n 3, 1), (155, .iconst 1, 1), (156, .iadd, 1), (157, .iconst 1, 1), (158, .bipush 9, 2), (160, .invokevirtual 219, 3), (163, .ireturn, 1), (164, .iconst 1, 1), (165, .ireturn, 1)]
def zk_9_52 : List (Nat × Instr × Nat) := zk_9_52_0
def zk_9_53_0 : List (Nat × Instr × Nat) := [(0, .aload_n 0, 1), (1, .invokevirtual 77, 3), (4, .istore_n 1, 1), (5, .iload_n 1, 1), (6, .iconst 4, 1), (7, .if_icmp .ne 5, 3), (10, .iconst 0, 1), (11, .ireturn, 1), (12, .iconst 0, 1), (13, .istore_n 2, 1), (14, .iload_n 2, 1), (15, .bipush 103, 2), (17, .if_icmp .ge 20, 3), (20, .aload_n 0, 1), (21, .getfield 13, 3), (24, .iload_n 1, 1), (25, .iload_n 2, 1), (26, .invokestatic 50, 3), (29, .iconst 0, 1), (30, .iastore, 1), (31, .iinc 2 1, 3), (34, .goto (-20), 3), (37, .aload_n 0, 1), (38, .getfield 13, 3), (41, .bipush 9, 2), (43, .dup2, 1), (44, .iaload, 1), (45, .iconst 1, 1), (46, .iadd, 1), (47, .iastore, 1), (48, .aload_n 0, 1), (49, .iload_n 1, 1), (50, .invokevirtual 222, 3), (53, .ifCond .ne 5, 3), (56, .iconst 0, 1), (57, .ireturn, 1), (58, .aload_n 0, 1), (59, .bipush 44, 2), (61, .invokevirtual 225, 3), (64, .ifCond .ne (-16), 3), (67, .iconst 1, 1), (68, .ireturn, 1)]
def zk_9_53 : List (Nat × Instr × Nat) := zk_9_53_0
def zk_9_54_0 : List (Nat × Instr × Nat) := [(0, .aload_n 0, 1), (1, .iconst 0, 1), (2, .bipush 31, 2), (4, .invokevirtual 190, 3), (7, .istore_n 1, 1), (8, .iload_n 1, 1), (9, .iconst (-1), 1), (10, .if_icmp .ne 7, 3), (13, .iconst (-1), 1), (14, .goto 11, 3), (17, .aload_n 0, 1), (18, .iconst 0, 1), (19, .sipush 9999, 3), (22, .invokevirtual 190, 3), (25, .istore_n 2, 1), (26, .iload_n 2, 1), (27, .iconst (-1), 1), (28, .if_icmp .ne 5, 3), (31, .iconst 0, 1), (32, .ireturn, 1), (33, .aload_n 0, 1), (34, .getfield 13, 3), (37, .bipush 32, 2), (39, .iload_n 1, 1), (40, .iadd, 1), (41, .iload_n 2, 1), (42, .iastore, 1), (43, .aload_n 0, 1), (44, .getfield 13, 3), (47, .bipush 64, 2), (49, .iload_n 1, 1), (50, .iadd, 1), (51, .iload_n 2, 1), (52, .iastore, 1), (53, .iconst 1, 1), (54, .ireturn, 1)]
def zk_9_54 : List (Nat × Instr × Nat) := zk_9_54_0
def zk_9_55_0 : List (Nat × Instr × Nat) := [(0, .aload_n 0, 1), (1, .iconst 0, 1), (2, .iconst 3, 1), (3, .invokevirtual 190, 3), (6, .istore_n 1, 1), (7, .iload_n 1, 1), (8, .iconst (-1), 1), (9, .if_icmp .ne 5, 3), (12, .iconst 0, 1), (13, .ireturn, 1), (14, .aload_n 0, 1), (15, .invokevirtual 213, 3), (18, .aload_n 0, 1), (19, .ldc 228, 2), (21, .invokevirtual 195, 3), (24, .ifCond .ne 5, 3), (27, .iconst 0, 1), (28, .ireturn, 1), (29, .aload_n 0, 1), (30, .iconst 0, 1), (31, .bipush 31, 2), (33, .invokevirtual 190, 3), (36, .istore_n 2, 1), (37, .iload_n 2, 1), (38, .iconst (-1), 1), (39, .if_icmp .eq 7, 3), (42, .iconst 1, 1), (43, .goto 4, 3), (46, .iconst 0, 1), (47, .istore_n 3, 1), (48, .iconst 0, 1), (49, .istore 4, 2), (51, .iload 4, 2), (53, .iconst 4, 1), (54, .if_icmp .ge 39, 3), (57, .iload_n 3, 1), (58, .ifCond .eq 35, 3), (61, .iload 4, 2), (63, .iload_n 1, 1), (64, .if_icmp .eq 17, 3), (67, .aload_n 0, 1), (68, .getfield 13, 3), (71, .bipush 16, 2), (73, .iload 4, 2), (75, .iadd, 1), (76, .iaload, 1), (77, .iload_n 2, 1), (78, .if_icmp .eq 7, 3), (81, .iconst 1, 1), (82, .goto 4, 3), (85, .iconst 0, 1), (86, .istore_n 3, 1), (87, .iinc 4 1, 3), (90, .goto (-39), 3), (93, .iload_n 3, 1), (94, .ifCond .eq 13, 3), (97, .aload_n 0, 1), (98, .getfield 13, 3), (101, .bipush 16, 2), (103, .iload_n 1, 1), (104, .iadd, 1), (105, .iload_n 2, 1), (106, .iastore, 1), (107, .iload_n 3, 1), (108, .ireturn, 1)]
def zk_9_55 : List (Nat × Instr × Nat) := zk_9_55_0
def zk_9_56_0 : List (Nat × Instr × Nat) := [(0, .aload_n 0, 1), (1, .iconst 0, 1), (2, .bipush 15, 2), (4, .invokevirtual 190, 3), (7, .istore_n 1, 1), (8, .iconst 0, 1), (9, .istore_n 2, 1), (10, .iload_n 2, 1), (11, .iconst 4, 1), (12, .if_icmp .ge 24, 3), (15, .iload_n 1, 1), (16, .iconst (-1), 1), (17, .if_icmp .eq 19, 3), (20, .aload_n 0, 1), (21, .getfield 13, 3), (24, .bipush 20, 2), (26, .iload_n 2, 1), (27, .iadd, 1), (28, .iload_n 1, 1), (29, .iastore, 1), (30, .iinc 2 1, 3), (33, .goto (-23), 3), (36, .iload_n 1, 1), (37, .iconst (-1), 1), (38, .if_icmp .eq 7, 3), (41, .iconst 1, 1), (42, .goto 4, 3), (45, .iconst 0, 1), (46, .ireturn, 1)]
def zk_9_56 : List (Nat × Instr × Nat) := zk_9_56_0
def zk_9_57_0 : List (Nat × Instr × Nat) := [(0, .iload_n 0, 1), (1, .iconst 4, 1), (2, .if_icmp .eq 20, 3), (5, .iload_n 0, 1), (6, .iconst 5, 1), (7, .if_icmp .eq 15, 3), (10, .iload_n 0, 1), (11, .bipush 6, 2), (13, .if_icmp .eq 9, 3), (16, .iload_n 0, 1), (17, .bipush 8, 2), (19, .if_icmp .ne 7, 3), (22, .iconst 0, 1), (23, .goto 4, 3), (26, .iconst 1, 1), (27, .ireturn, 1)]
def zk_9_57 : List (Nat × Instr × Nat) := zk_9_57_0
def zk_9_58_0 : List (Nat × Instr × Nat) := [(0, .iload_n 0, 1), (1, .tableswitch 56 2 8 #[43, 45, 48, 56, 51, 56, 54], 43), (44, .iconst 4, 1), (45, .ireturn, 1), (46, .bipush 8, 2), (48, .ireturn, 1), (49, .bipush 16, 2), (51, .ireturn, 1), (52, .bipush 15, 2), (54, .ireturn, 1), (55, .iconst 1, 1), (56, .ireturn, 1), (57, .bipush 9, 2), (59, .ireturn, 1)]
def zk_9_58 : List (Nat × Instr × Nat) := zk_9_58_0
def zk_9_59_0 : List (Nat × Instr × Nat) := [(0, .aload_n 0, 1), (1, .ldc 229, 2), (3, .invokevirtual 195, 3), (6, .ifCond .eq 5, 3), (9, .iconst 1, 1), (10, .ireturn, 1), (11, .aload_n 0, 1), (12, .ldc 231, 2), (14, .invokevirtual 195, 3), (17, .ifCond .eq 5, 3), (20, .iconst 2, 1), (21, .ireturn, 1), (22, .aload_n 0, 1), (23, .ldc 233, 2), (25, .invokevirtual 195, 3), (28, .ifCond .eq 5, 3), (31, .iconst 3, 1), (32, .ireturn, 1), (33, .aload_n 0, 1), (34, .ldc 235, 2), (36, .invokevirtual 195, 3), (39, .ifCond .eq 5, 3), (42, .iconst 4, 1), (43, .ireturn, 1), (44, .aload_n 0, 1), (45, .ldc 237, 2), (47, .invokevirtual 195, 3), (50, .ifCond .eq 5, 3), (53, .iconst 5, 1), (54, .ireturn, 1), (55, .aload_n 0, 1), (56, .ldc 239, 2), (58, .invokevirtual 195, 3), (61, .ifCond .eq 6, 3), (64, .bipush 6, 2), (66, .ireturn, 1), (67, .aload_n 0, 1), (68, .ldc 241, 2), (70, .invokevirtual 195, 3), (73, .ifCond .eq 8, 3), (76, .bipush 7, 2), (78, .goto 4, 3), (81, .iconst (-1), 1), (82, .ireturn, 1)]
def zk_9_59 : List (Nat × Instr × Nat) := zk_9_59_0
def zk_9_60_0 : List (Nat × Instr × Nat) := [(0, .aload_n 0, 1), (1, .ldc 243, 2), (3, .invokevirtual 195, 3), (6, .ifCond .eq 8, 3), (9, .aload_n 0, 1), (10, .invokevirtual 245, 3), (13, .ireturn, 1), (14, .aload_n 0, 1), (15, .ldc 249, 2), (17, .invokevirtual 195, 3), (20, .ifCond .eq 8, 3), (23, .aload_n 0, 1), (24, .invokevirtual 251, 3), (27, .ireturn, 1), (28, .aload_n 0, 1), (29, .ldc 254, 2), (31, .invokevirtual 195, 3), (34, .ifCond .eq 8, 3), (37, .aload_n 0, 1), (38, .invokevirtual 256, 3), (41, .ireturn, 1), (42, .aload_n 0, 1), (43, .ldc_w 259, 3), (46, .invokevirtual 195, 3), (49, .ifCond .eq 8, 3), (52, .aload_n 0, 1), (53, .invokevirtual 261, 3), (56, .ireturn, 1), (57, .aload_n 0, 1), (58, .ldc_w 264, 3), (61, .invokevirtual 195, 3), (64, .ifCond .eq 27, 3), (67, .aload_n 0, 1), (68, .invokevirtual 77, 3), (71, .ifCond .ne 18, 3), (74, .aload_n 0, 1), (75, .iconst 0, 1), (76, .iconst 1, 1), (77, .bipush 8, 2), (79, .invokevirtual 219, 3), (82, .ifCond .eq 7, 3), (85, .iconst 1, 1), (86, .goto 4, 3), (89, .iconst 0, 1), (90, .ireturn, 1), (91, .aload_n 0, 1), (92, .ldc_w 266, 3), (95, .invokevirtual 195, 3), (98, .ifCond .ne 13, 3), (101, .aload_n 0, 1), (102, .ldc_w 268, 3), (105, .invokevirtual 195, 3), (108, .ifCond .eq 27, 3), (111, .aload_n 0, 1), (112, .getfield 13, 3), (115, .bipush 8, 2), (117, .aload_n 0, 1), (118, .ldc_w 266, 3), (121, .invokevirtual 195, 3), (124, .ifCond .eq 7, 3), (127, .iconst 1, 1), (128, .goto 4, 3), (131, .iconst 0, 1), (132, .iastore, 1), (133, .iconst 1, 1), (134, .ireturn, 1), (135, .aload_n 0, 1), (136, .invokevirtual 270, 3), (139, .istore_n 1, 1), (140, .iload_n 1, 1), (141, .iconst (-1), 1), (142, .if_icmp .eq 23, 3), (145, .aload_n 0, 1), (146, .iload_n 1, 1), (147, .iload_n 1, 1), (148, .invokestatic 273, 3), (151, .iload_n 1, 1), (152, .invokestatic 276, 3), (155, .invokevirtual 219, 3), (158, .ifCond .eq 7, 3), (161, .iconst 1, 1), (162, .goto 4, 3), (165, .iconst 0, 1), (166, .ireturn, 1)]
def zk_9_60 : List (Nat × Instr × Nat) := zk_9_60_0
def zk_9_61_0 : List (Nat × Instr × Nat) := [(0, .aload_n 0, 1), (1, .invokevirtual 178, 3), (4, .aload_n 0, 1), (5, .getfield 166, 3), (8, .aload_n 0, 1), (9, .getfield 169, 3), (12, .if_icmp .ne 5, 3), (15, .iconst 1, 1), (16, .ireturn, 1), (17, .iconst 0, 1), (18, .istore_n 1, 1), (19, .aload_n 0, 1), (20, .invokevirtual 213, 3), (23, .iload_n 1, 1), (24, .bipush 14, 2), (26, .if_icmp .eq 10, 3), (29, .aload_n 0, 1), (30, .invokevirtual 279, 3), (33, .ifCond .ne 5, 3), (36, .iconst 0, 1), (37, .ireturn, 1), (38, .aload_n 0, 1), (39, .invokevirtual 178, 3), (42, .aload_n 0, 1), (43, .getfield 166, 3), (46, .aload_n 0, 1), (47, .getfield 169, 3), (50, .if_icmp .ne 5, 3), (53, .iconst 1, 1), (54, .ireturn, 1), (55, .aload_n 0, 1), (56, .bipush 59, 2), (58, .invokevirtual 225, 3), (61, .ifCond .ne 5, 3), (64, .iconst 0, 1), (65, .ireturn, 1), (66, .iinc 1 1, 3), (69, .goto (-50), 3)]
def zk_9_61 : List (Nat × Instr × Nat) := zk_9_61_0
def zk_9_62_0 : List (Nat × Instr × Nat) := [(0, .aload_n 0, 1), (1, .iconst 0, 1), (2, .putfield 3, 3), (5, .aload_n 0, 1), (6, .aload_n 0, 1), (7, .getfield 163, 3), (10, .putfield 169, 3), (13, .aload_n 0, 1), (14, .iconst 0, 1), (15, .putfield 163, 3), (18, .aload_n 0, 1), (19, .iconst 0, 1), (20, .putfield 166, 3), (23, .aload_n 0, 1), (24, .getfield 13, 3), (27, .aload_n 0, 1), (28, .getfield 20, 3), (31, .invokestatic 42, 3), (34, .aload_n 0, 1), (35, .invokevirtual 282, 3), (38, .istore_n 1, 1), (39, .aload_n 0, 1), (40, .iload_n 1, 1), (41, .ifCond .eq 7, 3), (44, .iconst (-1), 1), (45, .goto 7, 3), (48, .aload_n 0, 1), (49, .getfield 175, 3), (52, .putfield 27, 3), (55, .aload_n 0, 1), (56, .iload_n 1, 1), (57, .ifCond .ne 7, 3), (60, .iconst 1, 1), (61, .goto 4, 3), (64, .iconst 0, 1), (65, .iconst 1, 1), (66, .invokevirtual 285, 3), (69, .ifCond .ne 28, 3), (72, .aload_n 0, 1), (73, .aload_n 0, 1), (74, .getfield 13, 3), (77, .bipush 10, 2), (79, .iaload, 1), (80, .bipush 12, 2), (82, .if_icmp .ne 7, 3), (85, .iconst 1, 1), (86, .goto 4, 3), (89, .iconst 0, 1), (90, .iconst 2, 1), (91, .invokevirtual 285, 3), (94, .ifCond .eq 16, 3), (97, .aload_n 0, 1), (98, .getfield 20, 3), (101, .aload_n 0, 1), (102, .getfield 13, 3), (105, .invokestatic 42, 3), (108, .iconst 0, 1), (109, .ireturn, 1), (110, .aload_n 0, 1), (111, .getfield 13, 3), (114, .bipush 10, 2), (116, .dup2, 1), (117, .iaload, 1), (118, .iconst 1, 1), (119, .iadd, 1), (120, .iastore, 1), (121, .aload_n 0, 1), (122, .getfield 13, 3), (125, .bipush 10, 2), (127, .iaload, 1), (128, .ireturn, 1)]
def zk_9_62 : List (Nat × Instr × Nat) := zk_9_62_0
def zk_9_63_0 : List (Nat × Instr × Nat) := [(0, .aload_n 0, 1), (1, .iconst 0, 1), (2, .putfield 3, 3), (5, .aload_n 0, 1), (6, .iload_n 1, 1), (7, .iconst 0, 1), (8, .aload_n 0, 1), (9, .invokevirtual 77, 3), (12, .iconst 1, 1), (13, .isub, 1), (14, .invokestatic 289, 3), (17, .ifCond .ne 7, 3), (20, .iconst 1, 1), (21, .goto 4, 3), (24, .iconst 0, 1), (25, .iconst 1, 1), (26, .invokevirtual 285, 3), (29, .ireturn, 1)]
def zk_9_63 : List (Nat × Instr × Nat) := zk_9_63_0
def zk_9_64_0 : List (Nat × Instr × Nat) := [(0, .aload_n 0, 1), (1, .iload_n 1, 1), (2, .invokevirtual 292, 3), (5, .ifCond .ne 37, 3), (8, .aload_n 0, 1), (9, .aload_n 0, 1), (10, .iload_n 1, 1), (11, .invokevirtual 153, 3), (14, .ifCond .ne 16, 3), (17, .aload_n 0, 1), (18, .getfield 13, 3), (21, .bipush 11, 2), (23, .iaload, 1), (24, .ldc_w 295, 3), (27, .if_icmp .ne 7, 3), (30, .iconst 1, 1), (31, .goto 4, 3), (34, .iconst 0, 1), (35, .iconst 2, 1), (36, .invokevirtual 285, 3), (39, .ifCond .eq 7, 3), (42, .iconst 0, 1), (43, .goto 8, 3), (46, .aload_n 0, 1), (47, .iload_n 1, 1), (48, .invokevirtual 296, 3), (51, .ireturn, 1)]
def zk_9_64 : List (Nat × Instr × Nat) := zk_9_64_0
def zk_9_65_0 : List (Nat × Instr × Nat) := [(0, .iconst 0, 1), (1, .istore_n 3, 1), (2, .iload_n 3, 1), (3, .iload_n 1, 1), (4, .if_icmp .ge 50, 3), (7, .aload_n 0, 1), (8, .invokevirtual 299, 3), (11, .ifCond .ne 43, 3), (14, .aload_n 0, 1), (15, .getfield 13, 3), (18, .bipush 11, 2), (20, .iaload, 1), (21, .ldc_w 295, 3), (24, .if_icmp .ge 30, 3), (27, .aload_n 0, 1), (28, .iload_n 2, 1), (29, .ifCond .eq 10, 3), (32, .aload_n 0, 1), (33, .invokevirtual 302, 3), (36, .goto 7, 3), (39, .aload_n 0, 1), (40, .invokevirtual 305, 3), (43, .invokevirtual 296, 3), (46, .istore 4, 2), (48, .iinc 3 1, 3), (51, .goto (-49), 3), (54, .iload_n 3, 1), (55, .ireturn, 1)]
def zk_9_65 : List (Nat × Instr × Nat) := zk_9_65_0
def zk_9_66_0 : List (Nat × Instr × Nat) := [(0, .aload_n 0, 1), (1, .iconst 0, 1), (2, .putfield 3, 3), (5, .aload_n 0, 1), (6, .iload_n 1, 1), (7, .iconst 1, 1), (8, .bipush 100, 2), (10, .invokestatic 289, 3), (13, .ifCond .ne 7, 3), (16, .iconst 1, 1), (17, .goto 4, 3), (20, .iconst 0, 1), (21, .iconst 1, 1), (22, .invokevirtual 285, 3), (25, .ifCond .eq 7, 3), (28, .iconst 0, 1), (29, .goto 9, 3), (32, .aload_n 0, 1), (33, .iload_n 1, 1), (34, .iconst 0, 1), (35, .invokevirtual 308, 3), (38, .ireturn, 1)]
def zk_9_66 : List (Nat × Instr × Nat) := zk_9_66_0
def zk_9_67_0 : List (Nat × Instr × Nat) := [(0, .aload_n 0, 1), (1, .iconst 0, 1), (2, .putfield 3, 3), (5, .aload_n 0, 1), (6, .iload_n 1, 1), (7, .iconst 1, 1), (8, .bipush 100, 2), (10, .invokestatic 289, 3), (13, .ifCond .ne 7, 3), (16, .iconst 1, 1), (17, .goto 4, 3), (20, .iconst 0, 1), (21, .iconst 1, 1), (22, .invokevirtual 285, 3), (25, .ifCond .eq 7, 3), (28, .iconst 0, 1), (29, .goto 9, 3), (32, .aload_n 0, 1), (33, .iload_n 1, 1), (34, .iconst 1, 1), (35, .invokevirtual 308, 3), (38, .ireturn, 1)]
def zk_9_67 : List (Nat × Instr × Nat) := zk_9_67_0
def zk_9_68_0 : List (Nat × Instr × Nat) := [(0, .aload_n 0, 1), (1, .iconst 0, 1), (2, .putfield 3, 3), (5, .aload_n 0, 1), (6, .iload_n 1, 1), (7, .iconst 0, 1), (8, .bipush 31, 2), (10, .invokestatic 289, 3), (13, .ifCond .ne 7, 3), (16, .iconst 1, 1), (17, .goto 4, 3), (20, .iconst 0, 1), (21, .iconst 1, 1), (22, .invokevirtual 285, 3), (25, .ifCond .ne 27, 3), (28, .aload_n 0, 1), (29, .iload_n 2, 1), (30, .iconst 0, 1), (31, .sipush 9999, 3), (34, .invokestatic 289, 3), (37, .ifCond .ne 7, 3), (40, .iconst 1, 1), (41, .goto 4, 3), (44, .iconst 0, 1), (45, .iconst 2, 1), (46, .invokevirtual 285, 3), (49, .ifCond .eq 5, 3), (52, .iconst 0, 1), (53, .ireturn, 1), (54, .aload_n 0, 1), (55, .getfield 13, 3), (58, .bipush 32, 2), (60, .iload_n 1, 1), (61, .iadd, 1), (62, .iaload, 1), (63, .istore_n 3, 1), (64, .aload_n 0, 1), (65, .iconst (-1), 1), (66, .iload_n 1, 1), (67, .iload_n 2, 1), (68, .invokevirtual 120, 3), (71, .istore 4, 2), (73, .iload_n 3, 1), (74, .ireturn, 1)]
def zk_9_68 : List (Nat × Instr × Nat) := zk_9_68_0
def zk_9_69_0 : List (Nat × Instr × Nat) := [(0, .aload_n 0, 1), (1, .iconst 0, 1), (2, .putfield 3, 3), (5, .aload_n 0, 1), (6, .iload_n 1, 1), (7, .iconst 1, 1), (8, .bipush 8, 2), (10, .invokestatic 289, 3), (13, .ifCond .ne 7, 3), (16, .iconst 1, 1), (17, .goto 4, 3), (20, .iconst 0, 1), (21, .iconst 1, 1), (22, .invokevirtual 285, 3), (25, .ifCond .ne 31, 3), (28, .aload_n 0, 1), (29, .iload_n 2, 1), (30, .iload_n 1, 1), (31, .invokestatic 273, 3), (34, .iload_n 1, 1), (35, .invokestatic 276, 3), (38, .invokestatic 289, 3), (41, .ifCond .ne 7, 3), (44, .iconst 1, 1), (45, .goto 4, 3), (48, .iconst 0, 1), (49, .iconst 2, 1), (50, .invokevirtual 285, 3), (53, .ifCond .eq 5, 3), (56, .iconst 0, 1), (57, .ireturn, 1), (58, .aload_n 0, 1), (59, .getfield 13, 3), (62, .iload_n 1, 1), (63, .iaload, 1), (64, .istore_n 3, 1), (65, .aload_n 0, 1), (66, .getfield 13, 3), (69, .iload_n 1, 1), (70, .iload_n 2, 1), (71, .iastore, 1), (72, .iload_n 3, 1), (73, .ireturn, 1)]
def zk_9_69 : List (Nat × Instr × Nat) := zk_9_69_0
def zk_9_70_0 : List (Nat × Instr × Nat) := [(0, .aload_n 0, 1), (1, .iconst 0, 1), (2, .putfield 3, 3), (5, .aload_n 0, 1), (6, .getfield 13, 3), (9, .bipush 13, 2), (11, .iaload, 1), (12, .istore_n 2, 1), (13, .aload_n 0, 1), (14, .getfield 13, 3), (17, .bipush 13, 2), (19, .iload_n 1, 1), (20, .iastore, 1), (21, .iload_n 2, 1), (22, .ireturn, 1)]
def zk_9_70 : List (Nat × Instr × Nat) := zk_9_70_0
def zk_9_71_0 : List (Nat × Instr × Nat) := [(0, .iconst 0, 1), (1, .istore_n 2, 1), (2, .iconst 0, 1), (3, .istore_n 3, 1), (4, .iload_n 3, 1), (5, .iconst 5, 1), (6, .if_icmp .ge 20, 3), (9, .iload_n 2, 1), (10, .aload_n 0, 1), (11, .iload_n 1, 1), (12, .iconst 5, 1), (13, .iload_n 3, 1), (14, .iadd, 1), (15, .invokevirtual 54, 3), (18, .iadd, 1), (19, .istore_n 2, 1), (20, .iinc 3 1, 3), (23, .goto (-19), 3), (26, .iload_n 2, 1), (27, .ireturn, 1)]
def zk_9_71 : List (Nat × Instr × Nat) := zk_9_71_0
def zk_9_72_0 : List (Nat × Instr × Nat) := [(0, .aload_n 0, 1), (1, .iload_n 1, 1), (2, .invokevirtual 292, 3), (5, .ifCond .ne 26, 3), (8, .aload_n 0, 1), (9, .iload_n 2, 1), (10, .iconst 0, 1), (11, .bipush 9, 2), (13, .invokestatic 289, 3), (16, .ifCond .ne 7, 3), (19, .iconst 1, 1), (20, .goto 4, 3), (23, .iconst 0, 1), (24, .iconst 2, 1), (25, .invokevirtual 285, 3), (28, .ifCond .eq 5, 3), (31, .iconst 0, 1), (32, .ireturn, 1), (33, .iload_n 2, 1), (34, .tableswitch 121 0 8 #[50, 57, 64, 71, 85, 92, 99, 105, 113], 50), (84, .aload_n 0, 1), (85, .iload_n 1, 1), (86, .iconst 0, 1), (87, .invokevirtual 54, 3), (90, .ireturn, 1), (91, .aload_n 0, 1), (92, .iload_n 1, 1), (93, .iconst 1, 1), (94, .invokevirtual 54, 3), (97, .ireturn, 1), (98, .aload_n 0, 1), (99, .iload_n 1, 1), (100, .iconst 2, 1), (101, .invokevirtual 54, 3), (104, .ireturn, 1), (105, .aload_n 0, 1), (106, .iload_n 1, 1), (107, .invokevirtual 153, 3), (110, .ifCond .eq 7, 3), (113, .iconst 1, 1), (114, .goto 4, 3), (117, .iconst 0, 1), (118, .ireturn, 1), (119, .aload_n 0, 1), (120, .iload_n 1, 1), (121, .iconst 3, 1), (122, .invokevirtual 54, 3), (125, .ireturn, 1), (126, .aload_n 0, 1), (127, .iload_n 1, 1), (128, .iconst 4, 1), (129, .invokevirtual 54, 3), (132, .ireturn, 1), (133, .aload_n 0, 1), (134, .iload_n 1, 1), (135, .invokevirtual 312, 3), (138, .ireturn, 1), (139, .aload_n 0, 1), (140, .iload_n 1, 1), (141, .bipush 10, 2), (143, .invokevirtual 54, 3), (146, .ireturn, 1), (147, .aload_n 0, 1), (148, .iload_n 1, 1), (149, .bipush 22, 2), (151, .invokevirtual 54, 3), (154, .ireturn, 1), (155, .aload_n 0, 1), (156, .iload_n 1, 1), (157, .bipush 21, 2), (159, .invokevirtual 54, 3), (162, .ireturn, 1)]
def zk_9_72 : List (Nat × Instr × Nat) := zk_9_72_0
def zk_9_73_0 : List (Nat × Instr × Nat) := [(0, .aload_n 0, 1), (1, .iload_n 1, 1), (2, .invokevirtual 292, 3), (5, .ifCond .eq 7, 3), (8, .iconst 0, 1), (9, .goto 33, 3), (12, .iload_n 2, 1), (13, .iconst 0, 1), (14, .aload_n 0, 1), (15, .iload_n 1, 1), (16, .bipush 10, 2), (18, .invokevirtual 54, 3), (21, .iconst 1, 1), (22, .isub, 1), (23, .invokestatic 289, 3), (26, .ifCond .eq 15, 3), (29, .aload_n 0, 1), (30, .iload_n 1, 1), (31, .bipush 11, 2), (33, .iload_n 2, 1), (34, .iadd, 1), (35, .invokevirtual 54, 3), (38, .goto 4, 3), (41, .iconst (-1), 1), (42, .ireturn, 1)]
def zk_9_73 : List (Nat × Instr × Nat) := zk_9_73_0
def zk_9_74_0 : List (Nat × Instr × Nat) := [(0, .aload_n 0, 1), (1, .iload_n 1, 1), (2, .invokevirtual 292, 3), (5, .ifCond .ne 25, 3), (8, .aload_n 0, 1), (9, .iload_n 2, 1), (10, .iconst 0, 1), (11, .iconst 1, 1), (12, .invokestatic 289, 3), (15, .ifCond .ne 7, 3), (18, .iconst 1, 1), (19, .goto 4, 3), (22, .iconst 0, 1), (23, .iconst 2, 1), (24, .invokevirtual 285, 3), (27, .ifCond .eq 7, 3), (30, .iconst 0, 1), (31, .goto 19, 3), (34, .aload_n 0, 1), (35, .iload_n 1, 1), (36, .iload_n 2, 1), (37, .ifCond .ne 8, 3), (40, .bipush 15, 2), (42, .goto 5, 3), (45, .bipush 16, 2), (47, .invokevirtual 54, 3), (50, .ireturn, 1)]
def zk_9_74 : List (Nat × Instr × Nat) := zk_9_74_0
def zk_9_75_0 : List (Nat × Instr × Nat) := [(0, .aload_n 0, 1), (1, .iconst 0, 1), (2, .putfield 3, 3), (5, .aload_n 0, 1), (6, .iload_n 1, 1), (7, .iconst (-1), 1), (8, .if_icmp .eq 21, 3), (11, .iload_n 1, 1), (12, .iconst 0, 1), (13, .aload_n 0, 1), (14, .invokevirtual 77, 3), (17, .iconst 1, 1), (18, .isub, 1), (19, .invokestatic 289, 3), (22, .ifCond .ne 7, 3), (25, .iconst 1, 1), (26, .goto 4, 3), (29, .iconst 0, 1), (30, .iconst 1, 1), (31, .invokevirtual 285, 3), (34, .ifCond .ne 25, 3), (37, .aload_n 0, 1), (38, .iload_n 2, 1), (39, .iconst 0, 1), (40, .iconst 4, 1), (41, .invokestatic 289, 3), (44, .ifCond .ne 7, 3), (47, .iconst 1, 1), (48, .goto 4, 3), (51, .iconst 0, 1), (52, .iconst 2, 1), (53, .invokevirtual 285, 3), (56, .ifCond .eq 5, 3), (59, .iconst 0, 1), (60, .ireturn, 1), (61, .iconst 0, 1), (62, .istore_n 3, 1), (63, .iconst 0, 1), (64, .istore 4, 2), (66, .iload 4, 2), (68, .aload_n 0, 1), (69, .invokevirtual 77, 3), (72, .if_icmp .ge 36, 3), (75, .iload_n 3, 1), (76, .iload_n 1, 1), (77, .iconst (-1), 1), (78, .if_icmp .eq 9, 3), (81, .iload_n 1, 1), (82, .iload 4, 2), (84, .if_icmp .ne 15, 3), (87, .aload_n 0, 1), (88, .iload 4, 2), (90, .iconst 5, 1), (91, .iload_n 2, 1), (92, .iadd, 1), (93, .invokevirtual 54, 3), (96, .goto 4, 3), (99, .iconst 0, 1), (100, .iadd, 1), (101, .istore_n 3, 1), (102, .iinc 4 1, 3), (105, .goto (-39), 3), (108, .iload_n 3, 1), (109, .ireturn, 1)]
def zk_9_75 : List (Nat × Instr × Nat) := zk_9_75_0
def zk_9_76_0 : List (Nat × Instr × Nat) := [(0, .aload_n 0, 1), (1, .iload_n 1, 1), (2, .iconst 0, 1), (3, .bipush 31, 2), (5, .invokestatic 289, 3), (8, .ifCond .ne 7, 3), (11, .iconst 1, 1), (12, .goto 4, 3), (15, .iconst 0, 1), (16, .iconst 1, 1), (17, .invokevirtual 285, 3), (20, .ireturn, 1)]
def zk_9_76 : List (Nat × Instr × Nat) := zk_9_76_0
def zk_9_77_0 : List (Nat × Instr × Nat) := [(0, .aload_n 0, 1), (1, .iconst 0, 1), (2, .putfield 3, 3), (5, .aload_n 0, 1), (6, .iload_n 1, 1), (7, .invokevirtual 315, 3), (10, .ifCond .eq 7, 3), (13, .iconst 0, 1), (14, .goto 12, 3), (17, .aload_n 0, 1), (18, .getfield 13, 3), (21, .bipush 32, 2), (23, .iload_n 1, 1), (24, .iadd, 1), (25, .iaload, 1), (26, .ireturn, 1)]
def zk_9_77 : List (Nat × Instr × Nat) := zk_9_77_0
def zk_9_78_0 : List (Nat × Instr × Nat) := [(0, .aload_n 0, 1), (1, .iload_n 1, 1), (2, .invokevirtual 292, 3), (5, .ifCond .ne 11, 3), (8, .aload_n 0, 1), (9, .iload_n 2, 1), (10, .invokevirtual 315, 3), (13, .ifCond .eq 7, 3), (16, .iconst 0, 1), (17, .goto 9, 3), (20, .aload_n 0, 1), (21, .iload_n 1, 1), (22, .iload_n 2, 1), (23, .invokevirtual 114, 3), (26, .ireturn, 1)]
def zk_9_78 : List (Nat × Instr × Nat) := zk_9_78_0
def zk_9_79_0 : List (Nat × Instr × Nat) := [(0, .iconst 0, 1), (1, .istore_n 2, 1), (2, .iconst 0, 1), (3, .istore_n 3, 1), (4, .iload_n 3, 1), (5, .aload_n 0, 1), (6, .invokevirtual 77, 3), (9, .if_icmp .ge 27, 3), (12, .iload_n 2, 1), (13, .aload_n 0, 1), (14, .iload_n 3, 1), (15, .iload_n 1, 1), (16, .invokevirtual 117, 3), (19, .iconst (-1), 1), (20, .if_icmp .ne 7, 3), (23, .iconst 0, 1), (24, .goto 4, 3), (27, .iconst 1, 1), (28, .iadd, 1), (29, .istore_n 2, 1), (30, .iinc 3 1, 3), (33, .goto (-29), 3), (36, .iload_n 2, 1), (37, .ireturn, 1)]
def zk_9_79 : List (Nat × Instr × Nat) := zk_9_79_0
def zk_9_80_0 : List (Nat × Instr × Nat) := [(0, .aload_n 0, 1), (1, .iconst 0, 1), (2, .putfield 3, 3), (5, .aload_n 0, 1), (6, .iload_n 1, 1), (7, .iconst 0, 1), (8, .iconst 3, 1), (9, .invokestatic 289, 3), (12, .ifCond .ne 7, 3), (15, .iconst 1, 1), (16, .goto 4, 3), (19, .iconst 0, 1), (20, .iconst 1, 1), (21, .invokevirtual 285, 3), (24, .ifCond .ne 25, 3), (27, .aload_n 0, 1), (28, .iload_n 2, 1), (29, .iconst 0, 1), (30, .iconst 5, 1), (31, .invokestatic 289, 3), (34, .ifCond .ne 7, 3), (37, .iconst 1, 1), (38, .goto 4, 3), (41, .iconst 0, 1), (42, .iconst 2, 1), (43, .invokevirtual 285, 3), (46, .ifCond .eq 5, 3), (49, .iconst 0, 1), (50, .ireturn, 1), (51, .iload_n 2, 1), (52, .tableswitch 90 0 4 #[36, 46, 64, 74, 84], 36), (88, .aload_n 0, 1), (89, .getfield 13, 3), (92, .bipush 16, 2), (94, .iload_n 1, 1), (95, .iadd, 1), (96, .iaload, 1), (97, .ireturn, 1), (98, .aload_n 0, 1), (99, .getfield 13, 3), (102, .bipush 32, 2), (104, .aload_n 0, 1), (105, .getfield 13, 3), (108, .bipush 16, 2), (110, .iload_n 1, 1), (111, .iadd, 1), (112, .iaload, 1), (113, .iadd, 1), (114, .iaload, 1), (115, .ireturn, 1), (116, .aload_n 0, 1), (117, .getfield 13, 3), (120, .bipush 20, 2), (122, .iload_n 1, 1), (123, .iadd, 1), (124, .iaload, 1), (125, .ireturn, 1), (126, .aload_n 0, 1), (127, .getfield 13, 3), (130, .bipush 24, 2), (132, .iload_n 1, 1), (133, .iadd, 1), (134, .iaload, 1), (135, .ireturn, 1), (136, .aload_n 0, 1), (137, .iload_n 1, 1), (138, .invokevirtual 318, 3), (141, .ireturn, 1), (142, .aload_n 0, 1), (143, .getfield 13, 3), (146, .bipush 28, 2), (148, .iload_n 1, 1), (149, .iadd, 1), (150, .iaload, 1), (151, .ireturn, 1)]
def zk_9_80 : List (Nat × Instr × Nat) := zk_9_80_0
def zk_9_81_0 : List (Nat × Instr × Nat) := [(0, .aload_n 0, 1), (1, .iconst 0, 1), (2, .putfield 3, 3), (5, .aload_n 0, 1), (6, .iload_n 1, 1), (7, .iconst 0, 1), (8, .bipush 8, 2), (10, .invokestatic 289, 3), (13, .ifCond .ne 7, 3), (16, .iconst 1, 1), (17, .goto 4, 3), (20, .iconst 0, 1), (21, .iconst 1, 1), (22, .invokevirtual 285, 3), (25, .ifCond .eq 7, 3), (28, .iconst 0, 1), (29, .goto 9, 3), (32, .aload_n 0, 1), (33, .getfield 13, 3), (36, .iload_n 1, 1), (37, .iaload, 1), (38, .ireturn, 1)]
def zk_9_81 : List (Nat × Instr × Nat) := zk_9_81_0
def zk_9_82_0 : List (Nat × Instr × Nat) := [(0, .aload_n 0, 1), (1, .iload_n 1, 1), (2, .invokevirtual 292, 3), (5, .ifCond .ne 25, 3), (8, .aload_n 0, 1), (9, .iload_n 3, 1), (10, .iconst 0, 1), (11, .iconst 1, 1), (12, .invokestatic 289, 3), (15, .ifCond .ne 7, 3), (18, .iconst 1, 1), (19, .goto 4, 3), (22, .iconst 0, 1), (23, .iconst 2, 1), (24, .invokevirtual 285, 3), (27, .ifCond .eq 5, 3), (30, .iconst 0, 1), (31, .ireturn, 1), (32, .iload_n 2, 1), (33, .iconst 0, 1), (34, .aload_n 0, 1), (35, .iload_n 1, 1), (36, .bipush 22, 2), (38, .invokevirtual 54, 3), (41, .iconst 1, 1), (42, .isub, 1), (43, .invokestatic 289, 3), (46, .ifCond .eq 13, 3), (49, .aload_n 0, 1), (50, .iload_n 1, 1), (51, .iload_n 2, 1), (52, .iload_n 3, 1), (53, .invokevirtual 146, 3), (56, .goto 4, 3), (59, .iconst (-1), 1), (60, .ireturn, 1)]
def zk_9_82 : List (Nat × Instr × Nat) := zk_9_82_0
def zk_9_83_0 : List (Nat × Instr × Nat) := [(0, .aload_n 0, 1), (1, .iconst 0, 1), (2, .putfield 3, 3), (5, .aload_n 0, 1), (6, .iload_n 2, 1), (7, .iconst 0, 1), (8, .iconst 1, 1), (9, .invokestatic 289, 3), (12, .ifCond .ne 7, 3), (15, .iconst 1, 1), (16, .goto 4, 3), (19, .iconst 0, 1), (20, .iconst 1, 1), (21, .invokevirtual 285, 3), (24, .ifCond .eq 5, 3), (27, .iconst 0, 1), (28, .ireturn, 1), (29, .iload_n 1, 1), (30, .iconst 0, 1), (31, .aload_n 0, 1), (32, .getfield 13, 3), (35, .bipush 14, 2), (37, .iaload, 1), (38, .iconst 1, 1), (39, .isub, 1), (40, .invokestatic 289, 3), (43, .ifCond .eq 19, 3), (46, .aload_n 0, 1), (47, .getfield 13, 3), (50, .bipush 96, 2), (52, .iconst 2, 1), (53, .iload_n 1, 1), (54, .imul, 1), (55, .iadd, 1), (56, .iload_n 2, 1), (57, .iadd, 1), (58, .iaload, 1), (59, .goto 4, 3), (62, .iconst (-1), 1), (63, .ireturn, 1)]
def zk_9_83 : List (Nat × Instr × Nat) := zk_9_83_0
def zk_9_84_0 : List (Nat × Instr × Nat) := [(0, .aload_n 0, 1), (1, .iconst 0, 1), (2, .putfield 3, 3), (5, .aload_n 0, 1), (6, .iload_n 2, 1), (7, .iconst 0, 1), (8, .iconst 3, 1), (9, .invokestatic 289, 3), (12, .ifCond .ne 7, 3), (15, .iconst 1, 1), (16, .goto 4, 3), (19, .iconst 0, 1), (20, .iconst 1, 1), (21, .invokevirtual 285, 3), (24, .ifCond .eq 5, 3), (27, .iconst 0, 1), (28, .ireturn, 1), (29, .iload_n 1, 1), (30, .iconst 0, 1), (31, .aload_n 0, 1), (32, .getfield 13, 3), (35, .bipush 15, 2), (37, .iaload, 1), (38, .iconst 1, 1), (39, .isub, 1), (40, .invokestatic 289, 3), (43, .ifCond .eq 30, 3), (46, .aload_n 0, 1), (47, .getfield 13, 3), (50, .sipush 136, 3), (53, .iconst 4, 1), (54, .aload_n 0, 1), (55, .getfield 13, 3), (58, .bipush 15, 2), (60, .iaload, 1), (61, .iconst 1, 1), (62, .isub, 1), (63, .iload_n 1, 1), (64, .isub, 1), (65, .imul, 1), (66, .iadd, 1), (67, .iload_n 2, 1), (68, .iadd, 1), (69, .iaload, 1), (70, .goto 4, 3), (73, .iconst (-1), 1), (74, .ireturn, 1)]
def zk_9_84 : List (Nat × Instr × Nat) := zk_9_84_0
def zk_9_85_0 : List (Nat × Instr × Nat) := [(0, .iconst 0, 1), (1, .istore_n 1, 1), (2, .iconst 0, 1), (3, .istore_n 2, 1), (4, .iload_n 2, 1), (5, .aload_n 0, 1), (6, .invokevirtual 77, 3), (9, .if_icmp .ge 20, 3), (12, .iload_n 1, 1), (13, .aload_n 0, 1), (14, .iload_n 2, 1), (15, .iconst 2, 1), (16, .invokevirtual 54, 3), (19, .iload_n 2, 1), (20, .ishl, 1), (21, .ior, 1), (22, .istore_n 1, 1), (23, .iinc 2 1, 3), (26, .goto (-22), 3), (29, .iload_n 1, 1), (30, .ireturn, 1)]
def zk_9_85 : List (Nat × Instr × Nat) := zk_9_85_0
def zk_9_86_0 : List (Nat × Instr × Nat) := [(0, .iconst 0, 1), (1, .istore_n 1, 1), (2, .iconst 0, 1), (3, .istore_n 2, 1), (4, .iload_n 2, 1), (5, .aload_n 0, 1), (6, .invokevirtual 77, 3), (9, .if_icmp .ge 18, 3), (12, .iload_n 1, 1), (13, .aload_n 0, 1), (14, .iload_n 2, 1), (15, .iconst 4, 1), (16, .invokevirtual 54, 3), (19, .iadd, 1), (20, .istore_n 1, 1), (21, .iinc 2 1, 3), (24, .goto (-20), 3), (27, .iload_n 1, 1), (28, .ireturn, 1)]
def zk_9_86 : List (Nat × Instr × Nat) := zk_9_86_0
def zk_9_87_0 : List (Nat × Instr × Nat) := [(0, .iconst 0, 1), (1, .istore_n 1, 1), (2, .iconst 0, 1), (3, .istore_n 2, 1), (4, .iload_n 2, 1), (5, .iconst 4, 1), (6, .if_icmp .ge 39, 3), (9, .iload_n 1, 1), (10, .aload_n 0, 1), (11, .getfield 13, 3), (14, .bipush 32, 2), (16, .aload_n 0, 1), (17, .getfield 13, 3), (20, .bipush 16, 2), (22, .iload_n 2, 1), (23, .iadd, 1), (24, .iaload, 1), (25, .iadd, 1), (26, .iaload, 1), (27, .ifCond .ne 7, 3), (30, .iconst 0, 1), (31, .goto 6, 3), (34, .iconst 1, 1), (35, .iload_n 2, 1), (36, .ishl, 1), (37, .ior, 1), (38, .istore_n 1, 1), (39, .iinc 2 1, 3), (42, .goto (-38), 3), (45, .iload_n 1, 1), (46, .ireturn, 1)]
def zk_9_87 : List (Nat × Instr × Nat) := zk_9_87_0
def zk_9_88_0 : List (Nat × Instr × Nat) := [(0, .aload_n 0, 1), (1, .iconst 0, 1), (2, .putfield 3, 3), (5, .iload_n 1, 1), (6, .tableswitch 119 0 9 #[54, 59, 67, 75, 80, 85, 90, 95, 103, 111], 54), (60, .aload_n 0, 1), (61, .invokevirtual 77, 3), (64, .ireturn, 1), (65, .aload_n 0, 1), (66, .getfield 13, 3), (69, .bipush 10, 2), (71, .iaload, 1), (72, .ireturn, 1), (73, .aload_n 0, 1), (74, .getfield 13, 3), (77, .bipush 11, 2), (79, .iaload, 1), (80, .ireturn, 1), (81, .aload_n 0, 1), (82, .invokevirtual 156, 3), (85, .ireturn, 1), (86, .aload_n 0, 1), (87, .invokevirtual 321, 3), (90, .ireturn, 1), (91, .aload_n 0, 1), (92, .invokevirtual 324, 3), (95, .ireturn, 1), (96, .aload_n 0, 1), (97, .invokevirtual 327, 3), (100, .ireturn, 1), (101, .aload_n 0, 1), (102, .getfield 13, 3), (105, .bipush 14, 2), (107, .iaload, 1), (108, .ireturn, 1), (109, .aload_n 0, 1), (110, .getfield 13, 3), (113, .bipush 15, 2), (115, .iaload, 1), (116, .ireturn, 1), (117, .aload_n 0, 1), (118, .getfield 13, 3), (121, .bipush 12, 2), (123, .iaload, 1), (124, .ireturn, 1), (125, .iconst (-1), 1), (126, .ireturn, 1)]
def zk_9_88 : List (Nat × Instr × Nat) := zk_9_88_0
def zk_9_89_0 : List (Nat × Instr × Nat) := [(0, .iconst 0, 1), (1, .istore_n 2, 1), (2, .iload_n 2, 1), (3, .sipush 400, 3), (6, .if_icmp .gt 65, 3), (9, .iload_n 1, 1), (10, .iconst (-1), 1), (11, .if_icmp .ne 13, 3), (14, .aload_n 0, 1), (15, .invokevirtual 299, 3), (18, .ifCond .eq 16, 3), (21, .goto 11, 3), (24, .aload_n 0, 1), (25, .iload_n 1, 1), (26, .invokevirtual 153, 3), (29, .ifCond .eq 5, 3), (32, .iload_n 2, 1), (33, .ireturn, 1), (34, .iload_n 2, 1), (35, .sipush 400, 3), (38, .if_icmp .ge 27, 3), (41, .aload_n 0, 1), (42, .getfield 13, 3), (45, .bipush 11, 2), (47, .iaload, 1), (48, .ldc_w 295, 3), (51, .if_icmp .eq 12, 3), (54, .aload_n 0, 1), (55, .iconst 1, 1), (56, .iconst 0, 1), (57, .invokevirtual 308, 3), (60, .ifCond .ne 5, 3), (63, .iconst (-1), 1), (64, .ireturn, 1), (65, .iinc 2 1, 3), (68, .goto (-66), 3), (71, .iconst (-1), 1), (72, .ireturn, 1)]
def zk_9_89 : List (Nat × Instr × Nat) := zk_9_89_0
def zk_9_90_0 : List (Nat × Instr × Nat) := [(0, .aload_n 0, 1), (1, .iload_n 1, 1), (2, .invokevirtual 292, 3), (5, .ifCond .eq 5, 3), (8, .iconst 0, 1), (9, .ireturn, 1), (10, .aload_n 0, 1), (11, .getfield 13, 3), (14, .aload_n 0, 1), (15, .getfield 20, 3), (18, .invokestatic 42, 3), (21, .aload_n 0, 1), (22, .iload_n 1, 1), (23, .invokevirtual 330, 3), (26, .istore_n 2, 1), (27, .aload_n 0, 1), (28, .getfield 20, 3), (31, .aload_n 0, 1), (32, .getfield 13, 3), (35, .invokestatic 42, 3), (38, .iload_n 2, 1), (39, .ireturn, 1)]
def zk_9_90 : List (Nat × Instr × Nat) := zk_9_90_0
def zk_9_91_0 : List (Nat × Instr × Nat) := [(0, .aload_n 0, 1), (1, .getfield 13, 3), (4, .aload_n 0, 1), (5, .getfield 20, 3), (8, .invokestatic 42, 3), (11, .aload_n 0, 1), (12, .getfield 13, 3), (15, .iconst 4, 1), (16, .iload_n 1, 1), (17, .iastore, 1), (18, .aload_n 0, 1), (19, .iconst (-1), 1), (20, .invokevirtual 330, 3), (23, .istore_n 2, 1), (24, .aload_n 0, 1), (25, .getfield 20, 3), (28, .aload_n 0, 1), (29, .getfield 13, 3), (32, .invokestatic 42, 3), (35, .iload_n 2, 1), (36, .ireturn, 1)]
def zk_9_91 : List (Nat × Instr × Nat) := zk_9_91_0
def zk_9_92_0 : List (Nat × Instr × Nat) := [(0, .aload_n 0, 1), (1, .iconst 0, 1), (2, .putfield 3, 3), (5, .aload_n 0, 1), (6, .iload_n 1, 1), (7, .iconst 0, 1), (8, .iconst 1, 1), (9, .invokestatic 289, 3), (12, .ifCond .ne 7, 3), (15, .iconst 1, 1), (16, .goto 4, 3), (19, .iconst 0, 1), (20, .iconst 1, 1), (21, .invokevirtual 285, 3), (24, .ifCond .eq 5, 3), (27, .iconst 0, 1), (28, .ireturn, 1), (29, .iconst (-1), 1), (30, .istore_n 2, 1), (31, .iconst (-1), 1), (32, .istore_n 3, 1), (33, .iconst 0, 1), (34, .istore 4, 2), (36, .iload 4, 2), (38, .bipush 16, 2), (40, .if_icmp .gt 43, 3), (43, .aload_n 0, 1), (44, .iload 4, 2), (46, .invokevirtual 333, 3), (49, .istore 5, 2), (51, .iload 5, 2), (53, .iconst (-1), 1), (54, .if_icmp .eq 23, 3), (57, .iload_n 3, 1), (58, .iconst (-1), 1), (59, .if_icmp .eq 12, 3), (62, .iload 5, 2), (64, .iload_n 3, 1), (65, .if_icmp .lt 6, 3), (68, .goto 9, 3), (71, .iload 4, 2), (73, .istore_n 2, 1), (74, .iload 5, 2), (76, .istore_n 3, 1), (77, .iinc 4 1, 3), (80, .goto (-44), 3), (83, .iload_n 1, 1), (84, .ifCond .ne 7, 3), (87, .iload_n 2, 1), (88, .goto 4, 3), (91, .iload_n 3, 1), (92, .ireturn, 1)]
def zk_9_92 : List (Nat × Instr × Nat) := zk_9_92_0
def zk_9_93_0 : List (Nat × Instr × Nat) := [(0, .aload_n 0, 1), (1, .iconst 0, 1), (2, .putfield 3, 3), (5, .aload_n 0, 1), (6, .bipush 16, 2), (8, .invokevirtual 333, 3), (11, .ireturn, 1)]
def zk_9_93 : List (Nat × Instr × Nat) := zk_9_93_0
def zk_9_94_0 : List (Nat × Instr × Nat) := [(0, .iconst 0, 1), (1, .istore 5, 2), (3, .iconst 0, 1), (4, .istore 6, 2), (6, .iload 6, 2), (8, .aload_n 0, 1), (9, .iload_n 1, 1), (10, .bipush 22, 2), (12, .invokevirtual 54, 3), (15, .if_icmp .ge 90, 3), (18, .aload_n 0, 1), (19, .iload_n 1, 1), (20, .iload 6, 2), (22, .iconst 0, 1), (23, .invokevirtual 146, 3), (26, .istore 7, 2), (28, .aload_n 0, 1), (29, .iload_n 1, 1), (30, .iload 6, 2), (32, .iconst 1, 1), (33, .invokevirtual 146, 3), (36, .istore 8, 2), (38, .iload 7, 2), (40, .iconst 2, 1), (41, .if_icmp .ne 7, 3), (44, .iload_n 3, 1), (45, .ifCond .ne 13, 3), (48, .iload 7, 2), (50, .iconst 3, 1), (51, .if_icmp .ne 18, 3), (54, .iload_n 2, 1), (55, .ifCond .eq 14, 3), (58, .iload 5, 2), (60, .aload_n 0, 1), (61, .iload 8, 2), (63, .invokevirtual 91, 3), (66, .ior, 1), (67, .istore 5, 2), (69, .iload 7, 2), (71, .iconst 1, 1), (72, .if_icmp .gt 27, 3), (75, .iload 4, 2), (77, .ifCond .eq 22, 3), (80, .iload 5, 2), (82, .aload_n 0, 1), (83, .aload_n 0, 1), (84, .getfield 13, 3), (87, .bipush 16, 2), (89, .iload 8, 2), (91, .iadd, 1), (92, .iaload, 1), (93, .invokevirtual 91, 3), (96, .ior, 1), (97, .istore 5, 2), (99, .iinc 6 1, 3), (102, .goto (-96), 3), (105, .iload 5, 2), (107, .ireturn, 1)]
def zk_9_94 : List (Nat × Instr × Nat) := zk_9_94_0
def zk_9_95_0 : List (Nat × Instr × Nat) := [(0, .aload_n 0, 1), (1, .iload_n 1, 1), (2, .invokevirtual 292, 3), (5, .ifCond .ne 25, 3), (8, .aload_n 0, 1), (9, .iload_n 2, 1), (10, .iconst 0, 1), (11, .iconst 1, 1), (12, .invokestatic 289, 3), (15, .ifCond .ne 7, 3), (18, .iconst 1, 1), (19, .goto 4, 3), (22, .iconst 0, 1), (23, .iconst 2, 1), (24, .invokevirtual 285, 3), (27, .ifCond .eq 7, 3), (30, .iconst 0, 1), (31, .goto 28, 3), (34, .aload_n 0, 1), (35, .iload_n 1, 1), (36, .iload_n 2, 1), (37, .iconst 1, 1), (38, .if_icmp .ne 7, 3), (41, .iconst 1, 1), (42, .goto 4, 3), (45, .iconst 0, 1), (46, .iload_n 2, 1), (47, .ifCond .ne 7, 3), (50, .iconst 1, 1), (51, .goto 4, 3), (54, .iconst 0, 1), (55, .iconst 1, 1), (56, .invokevirtual 336, 3), (59, .ireturn, 1)]
def zk_9_95 : List (Nat × Instr × Nat) := zk_9_95_0
def zk_9_96_0 : List (Nat × Instr × Nat) := [(0, .aload_n 0, 1), (1, .iconst 0, 1), (2, .putfield 3, 3), (5, .aload_n 0, 1), (6, .iload_n 1, 1), (7, .iconst 0, 1), (8, .aload_n 0, 1), (9, .invokevirtual 77, 3), (12, .iconst 1, 1), (13, .isub, 1), (14, .invokestatic 289, 3), (17, .ifCond .eq 17, 3), (20, .iload_n 2, 1), (21, .iconst 0, 1), (22, .aload_n 0, 1), (23, .invokevirtual 77, 3), (26, .iconst 1, 1), (27, .isub, 1), (28, .invokestatic 289, 3), (31, .ifCond .ne 7, 3), (34, .iconst 1, 1), (35, .goto 4, 3), (38, .iconst 0, 1), (39, .iconst 1, 1), (40, .invokevirtual 285, 3), (43, .ifCond .ne 21, 3), (46, .aload_n 0, 1), (47, .iload_n 1, 1), (48, .iload_n 2, 1), (49, .if_icmp .ne 7, 3), (52, .iconst 1, 1), (53, .goto 4, 3), (56, .iconst 0, 1), (57, .iconst 2, 1), (58, .invokevirtual 285, 3), (61, .ifCond .eq 5, 3), (64, .iconst 0, 1), (65, .ireturn, 1), (66, .aload_n 0, 1), (67, .iload_n 1, 1), (68, .iconst 1, 1), (69, .iconst 0, 1), (70, .iconst 0, 1), (71, .invokevirtual 336, 3), (74, .aload_n 0, 1), (75, .iload_n 2, 1), (76, .iconst 1, 1), (77, .iconst 1, 1), (78, .iconst 0, 1), (79, .invokevirtual 336, 3), (82, .iand, 1), (83, .aload_n 0, 1), (84, .iload_n 2, 1), (85, .iconst 1, 1), (86, .iconst 0, 1), (87, .iconst 0, 1), (88, .invokevirtual 336, 3), (91, .aload_n 0, 1), (92, .iload_n 1, 1), (93, .iconst 1, 1), (94, .iconst 1, 1), (95, .iconst 0, 1), (96, .invokevirtual 336, 3), (99, .iand, 1), (100, .ior, 1), (101, .ireturn, 1)]
def zk_9_96 : List (Nat × Instr × Nat) := zk_9_96_0
def zk_9_97_0 : List (Nat × Instr × Nat) := [(0, .aload_n 0, 1), (1, .iload_n 1, 1), (2, .iload_n 2, 1), (3, .iconst 0, 1), (4, .invokevirtual 146, 3), (7, .istore 4, 2), (9, .aload_n 0, 1), (10, .iload_n 1, 1), (11, .iload_n 2, 1), (12, .iconst 1, 1), (13, .invokevirtual 146, 3), (16, .istore 5, 2), (18, .iload 4, 2), (20, .ifCond .ne 12, 3), (23, .iload_n 3, 1), (24, .iconst 1, 1), (25, .iload 5, 2), (27, .ishl, 1), (28, .ior, 1), (29, .goto 21, 3), (32, .iload 4, 2), (34, .iconst 1, 1), (35, .if_icmp .ne 14, 3), (38, .iload_n 3, 1), (39, .iconst 1, 1), (40, .iload 5, 2), (42, .ishl, 1), (43, .iconst (-1), 1), (44, .ixor, 1), (45, .iand, 1), (46, .goto 4, 3), (49, .iload_n 3, 1), (50, .ireturn, 1)]
def zk_9_97 : List (Nat × Instr × Nat) := zk_9_97_0
def zk_9_98_0 : List (Nat × Instr × Nat) := [(0, .aload_n 0, 1), (1, .iload_n 1, 1), (2, .invokevirtual 292, 3), (5, .ifCond .eq 5, 3), (8, .iconst 0, 1), (9, .ireturn, 1), (10, .iconst 0, 1), (11, .istore_n 2, 1), (12, .iconst 0, 1), (13, .istore_n 3, 1), (14, .iconst 0, 1), (15, .istore 4, 2), (17, .iload 4, 2), (19, .aload_n 0, 1), (20, .iload_n 1, 1), (21, .bipush 22, 2), (23, .invokevirtual 54, 3), (26, .if_icmp .ge 27, 3), (29, .aload_n 0, 1), (30, .iload_n 1, 1), (31, .iload 4, 2), (33, .iload_n 2, 1), (34, .invokevirtual 340, 3), (37, .istore_n 2, 1), (38, .iload_n 3, 1), (39, .iload_n 2, 1), (40, .invokestatic 102, 3), (43, .invokestatic 57, 3), (46, .istore_n 3, 1), (47, .iinc 4 1, 3), (50, .goto (-33), 3), (53, .iload_n 3, 1), (54, .ireturn, 1)]
def zk_9_98 : List (Nat × Instr × Nat) := zk_9_98_0
def zk_9_99_0 : List (Nat × Instr × Nat) := [(0, .iconst 0, 1), (1, .istore_n 3, 1), (2, .iload_n 2, 1), (3, .istore 4, 2), (5, .aload_n 0, 1), (6, .iload_n 1, 1), (7, .iload 4, 2), (9, .iload_n 3, 1), (10, .invokevirtual 340, 3), (13, .istore_n 3, 1), (14, .iinc 4 1, 3), (17, .iload 4, 2), (19, .aload_n 0, 1), (20, .iload_n 1, 1), (21, .bipush 22, 2), (23, .invokevirtual 54, 3), (26, .if_icmp .ge 7, 3), (29, .iload_n 3, 1), (30, .ifCond .ne (-25), 3), (33, .iload 4, 2), (35, .ireturn, 1)]
def zk_9_99 : List (Nat × Instr × Nat) := zk_9_99_0
def zk_9_100_0 : List (Nat × Instr × Nat) := [(0, .iconst 0, 1), (1, .istore_n 2, 1), (2, .iconst 0, 1), (3, .istore_n 3, 1), (4, .iload_n 3, 1), (5, .aload_n 0, 1), (6, .iload_n 1, 1), (7, .bipush 22, 2), (9, .invokevirtual 54, 3), (12, .if_icmp .ge 16, 3), (15, .iinc 2 1, 3), (18, .aload_n 0, 1), (19, .iload_n 1, 1), (20, .iload_n 3, 1), (21, .invokevirtual 343, 3), (24, .istore_n 3, 1), (25, .goto (-21), 3), (28, .iload_n 2, 1), (29, .ireturn, 1)]
def zk_9_100 : List (Nat × Instr × Nat) := zk_9_100_0
def zk_9_101_0 : List (Nat × Instr × Nat) := [(0, .aload_n 0, 1), (1, .iload_n 1, 1), (2, .invokevirtual 292, 3), (5, .ifCond .eq 7, 3), (8, .iconst 0, 1), (9, .goto 8, 3), (12, .aload_n 0, 1), (13, .iload_n 1, 1), (14, .invokevirtual 346, 3), (17, .ireturn, 1)]
def zk_9_101 : List (Nat × Instr × Nat) := zk_9_101_0
def zk_9_102_0 : List (Nat × Instr × Nat) := [(0, .iload_n 3, 1), (1, .iconst 1, 1), (2, .if_icmp .gt 20, 3), (5, .iload_n 1, 1), (6, .iconst 0, 1), (7, .iadd, 1), (8, .aload_n 0, 1), (9, .getfield 13, 3), (12, .bipush 16, 2), (14, .iload 4, 2), (16, .iadd, 1), (17, .iaload, 1), (18, .iadd, 1), (19, .goto 4, 3), (22, .iconst 0, 1), (23, .istore 5, 2), (25, .iload_n 3, 1), (26, .tableswitch 180 0 7 #[46, 68, 78, 102, 126, 141, 180, 172], 46), (72, .aload_n 0, 1), (73, .getfield 33, 3), (76, .iload 5, 2), (78, .iaload, 1), (79, .ifCond .eq 5, 3), (82, .iconst 0, 1), (83, .ireturn, 1), (84, .aload_n 0, 1), (85, .getfield 33, 3), (88, .iload 5, 2), (90, .iconst 1, 1), (91, .iastore, 1), (92, .iconst 1, 1), (93, .ireturn, 1), (94, .aload_n 0, 1), (95, .getfield 33, 3), (98, .iload 5, 2), (100, .iconst 0, 1), (101, .iastore, 1), (102, .iconst 1, 1), (103, .ireturn, 1), (104, .aload_n 0, 1), (105, .getfield 33, 3), (108, .iload_n 1, 1), (109, .bipush 32, 2), (111, .iadd, 1), (112, .iload_n 2, 1), (113, .iadd, 1), (114, .aload_n 0, 1), (115, .getfield 33, 3), (118, .iload_n 1, 1), (119, .iconst 0, 1), (120, .iadd, 1), (121, .iload 4, 2), (123, .iadd, 1), (124, .iaload, 1), (125, .iastore, 1), (126, .iconst 1, 1), (127, .ireturn, 1), (128, .aload_n 0, 1), (129, .getfield 33, 3), (132, .iload_n 1, 1), (133, .iconst 0, 1), (134, .iadd, 1), (135, .iload 4, 2), (137, .iadd, 1), (138, .aload_n 0, 1), (139, .getfield 33, 3), (142, .iload_n 1, 1), (143, .bipush 32, 2), (145, .iadd, 1), (146, .iload_n 2, 1), (147, .iadd, 1), (148, .iaload, 1), (149, .iastore, 1), (150, .iconst 1, 1), (151, .ireturn, 1), (152, .aload_n 0, 1), (153, .getfield 33, 3), (156, .iload_n 1, 1), (157, .bipush 32, 2), (159, .iadd, 1), (160, .iload_n 2, 1), (161, .iadd, 1), (162, .iload 4, 2), (164, .iastore, 1), (165, .iconst 1, 1), (166, .ireturn, 1), (167, .aload_n 0, 1), (168, .getfield 33, 3), (171, .iload_n 1, 1), (172, .bipush 32, 2), (174, .iadd, 1), (175, .iload_n 2, 1), (176, .iadd, 1), (177, .aload_n 0, 1), (178, .getfield 33, 3), (181, .iload_n 1, 1), (182, .bipush 32, 2), (184, .iadd, 1), (185, .iload_n 2, 1), (186, .iadd, 1)]
def zk_9_102_1 : List (Nat × Instr × Nat) := [(187, .iaload, 1), (188, .iload 4, 2), (190, .iadd, 1), (191, .sipush 10000, 3), (194, .irem, 1), (195, .iastore, 1), (196, .iconst 1, 1), (197, .ireturn, 1), (198, .aload_n 0, 1), (199, .iload_n 1, 1), (200, .iload_n 2, 1), (201, .invokevirtual 349, 3), (204, .iconst 1, 1), (205, .ireturn, 1), (206, .iconst 1, 1), (207, .ireturn, 1)]
def zk_9_102 : List (Nat × Instr × Nat) := zk_9_102_0 ++ (zk_9_102_1)
def zk_9_103_0 : List (Nat × Instr × Nat) := [(0, .aload_n 0, 1), (1, .getfield 33, 3), (4, .iload_n 1, 1), (5, .bipush 40, 2), (7, .iadd, 1), (8, .iaload, 1), (9, .istore_n 3, 1), (10, .iload_n 3, 1), (11, .bipush 20, 2), (13, .if_icmp .ne 4, 3), (16, .return_, 1), (17, .aload_n 0, 1), (18, .getfield 33, 3), (21, .iload_n 1, 1), (22, .bipush 41, 2), (24, .iadd, 1), (25, .iconst 2, 1), (26, .iload_n 3, 1), (27, .imul, 1), (28, .iadd, 1), (29, .iload_n 2, 1), (30, .iastore, 1), (31, .aload_n 0, 1), (32, .getfield 33, 3), (35, .iload_n 1, 1), (36, .bipush 41, 2), (38, .iadd, 1), (39, .iconst 2, 1), (40, .iload_n 3, 1), (41, .imul, 1), (42, .iadd, 1), (43, .iconst 1, 1), (44, .iadd, 1), (45, .aload_n 0, 1), (46, .getfield 33, 3), (49, .iload_n 1, 1), (50, .bipush 32, 2), (52, .iadd, 1), (53, .iload_n 2, 1), (54, .iadd, 1), (55, .iaload, 1), (56, .iastore, 1), (57, .aload_n 0, 1), (58, .getfield 33, 3), (61, .iload_n 1, 1), (62, .bipush 40, 2), (64, .iadd, 1), (65, .dup2, 1), (66, .iaload, 1), (67, .iconst 1, 1), (68, .iadd, 1), (69, .iastore, 1), (70, .return_, 1)]
def zk_9_103 : List (Nat × Instr × Nat) := zk_9_103_0
def zk_9_104_0 : List (Nat × Instr × Nat) := [(0, .aload_n 0, 1), (1, .getfield 33, 3), (4, .iload_n 1, 1), (5, .bipush 40, 2), (7, .iadd, 1), (8, .iaload, 1), (9, .aload_n 0, 1), (10, .getfield 13, 3), (13, .bipush 14, 2), (15, .iaload, 1), (16, .if_icmp .ne 7, 3), (19, .iconst 1, 1), (20, .goto 4, 3), (23, .iconst 0, 1), (24, .istore_n 2, 1), (25, .iconst 0, 1), (26, .istore_n 3, 1), (27, .iload_n 3, 1), (28, .bipush 32, 2), (30, .if_icmp .ge 41, 3), (33, .iload_n 2, 1), (34, .ifCond .eq 37, 3), (37, .aload_n 0, 1), (38, .getfield 33, 3), (41, .iload_n 1, 1), (42, .iconst 0, 1), (43, .iadd, 1), (44, .iload_n 3, 1), (45, .iadd, 1), (46, .iaload, 1), (47, .aload_n 0, 1), (48, .getfield 13, 3), (51, .bipush 32, 2), (53, .iload_n 3, 1), (54, .iadd, 1), (55, .iaload, 1), (56, .if_icmp .ne 7, 3), (59, .iconst 1, 1), (60, .goto 4, 3), (63, .iconst 0, 1), (64, .istore_n 2, 1), (65, .iinc 3 1, 3), (68, .goto (-41), 3), (71, .iconst 0, 1), (72, .istore_n 3, 1), (73, .iload_n 3, 1), (74, .iconst 2, 1), (75, .aload_n 0, 1), (76, .getfield 13, 3), (79, .bipush 14, 2), (81, .iaload, 1), (82, .imul, 1), (83, .if_icmp .ge 42, 3), (86, .iload_n 2, 1), (87, .ifCond .eq 38, 3), (90, .aload_n 0, 1), (91, .getfield 33, 3), (94, .iload_n 1, 1), (95, .bipush 41, 2), (97, .iadd, 1), (98, .iload_n 3, 1), (99, .iadd, 1), (100, .iaload, 1), (101, .aload_n 0, 1), (102, .getfield 13, 3), (105, .bipush 96, 2), (107, .iload_n 3, 1), (108, .iadd, 1), (109, .iaload, 1), (110, .if_icmp .ne 7, 3), (113, .iconst 1, 1), (114, .goto 4, 3), (117, .iconst 0, 1), (118, .istore_n 2, 1), (119, .iinc 3 1, 3), (122, .goto (-49), 3), (125, .iload_n 2, 1), (126, .ireturn, 1)]
def zk_9_104 : List (Nat × Instr × Nat) := zk_9_104_0
def zk_9_105_0 : List (Nat × Instr × Nat) := [(0, .bipush 81, 2), (2, .iload_n 1, 1), (3, .imul, 1), (4, .istore_n 3, 1), (5, .iload_n 1, 1), (6, .iload_n 2, 1), (7, .if_icmp .ne 9, 3), (10, .aload_n 0, 1), (11, .iload_n 3, 1), (12, .invokevirtual 352, 3), (15, .ireturn, 1), (16, .iconst 0, 1), (17, .istore 4, 2), (19, .iload 4, 2), (21, .aload_n 0, 1), (22, .invokevirtual 77, 3), (25, .if_icmp .ge 184, 3), (28, .aload_n 0, 1), (29, .getfield 33, 3), (32, .iload_n 3, 1), (33, .bipush 36, 2), (35, .iadd, 1), (36, .iload 4, 2), (38, .iadd, 1), (39, .iaload, 1), (40, .istore 5, 2), (42, .iload 5, 2), (44, .aload_n 0, 1), (45, .iload 4, 2), (47, .bipush 22, 2), (49, .invokevirtual 54, 3), (52, .if_icmp .ne 6, 3), (55, .goto 148, 3), (58, .iconst 0, 1), (59, .istore 6, 2), (61, .iload 6, 2), (63, .bipush 81, 2), (65, .if_icmp .ge 30, 3), (68, .aload_n 0, 1), (69, .getfield 33, 3), (72, .iload_n 3, 1), (73, .bipush 81, 2), (75, .iadd, 1), (76, .iload 6, 2), (78, .iadd, 1), (79, .aload_n 0, 1), (80, .getfield 33, 3), (83, .iload_n 3, 1), (84, .iload 6, 2), (86, .iadd, 1), (87, .iaload, 1), (88, .iastore, 1), (89, .iinc 6 1, 3), (92, .goto (-31), 3), (95, .aload_n 0, 1), (96, .iload 4, 2), (98, .iload 5, 2), (100, .invokevirtual 343, 3), (103, .istore 6, 2), (105, .iconst 1, 1), (106, .istore 7, 2), (108, .iload 5, 2), (110, .istore 8, 2), (112, .iload 8, 2), (114, .iload 6, 2), (116, .if_icmp .ge 44, 3), (119, .iload 7, 2), (121, .ifCond .eq 39, 3), (124, .aload_n 0, 1), (125, .iload_n 3, 1), (126, .bipush 81, 2), (128, .iadd, 1), (129, .iload 4, 2), (131, .aload_n 0, 1), (132, .iload 4, 2), (134, .iload 8, 2), (136, .iconst 0, 1), (137, .invokevirtual 146, 3), (140, .aload_n 0, 1), (141, .iload 4, 2), (143, .iload 8, 2), (145, .iconst 1, 1), (146, .invokevirtual 146, 3), (149, .invokevirtual 355, 3), (152, .istore 7, 2), (154, .iinc 8 1, 3), (157, .goto (-45), 3), (160, .aload_n 0, 1), (161, .getfield 33, 3), (164, .iload_n 3, 1), (165, .bipush 81, 2), (167, .iadd, 1), (168, .bipush 36, 2), (170, .iadd, 1), (171, .iload 4, 2), (173, .iadd, 1), (174, .iload 6, 2), (176, .iastore, 1), (177, .aload_n 0, 1), (178, .getfield 36, 3)]
def zk_9_105_1 : List (Nat × Instr × Nat) := [(181, .iload_n 1, 1), (182, .iload 4, 2), (184, .iastore, 1), (185, .iload 7, 2), (187, .ifCond .eq 16, 3), (190, .aload_n 0, 1), (191, .iload_n 1, 1), (192, .iconst 1, 1), (193, .iadd, 1), (194, .iload_n 2, 1), (195, .invokevirtual 359, 3), (198, .ifCond .eq 5, 3), (201, .iconst 1, 1), (202, .ireturn, 1), (203, .iinc 4 1, 3), (206, .goto (-187), 3), (209, .iconst 0, 1), (210, .ireturn, 1)]
def zk_9_105 : List (Nat × Instr × Nat) := zk_9_105_0 ++ (zk_9_105_1)
def zk_9_106_0 : List (Nat × Instr × Nat) := [(0, .aload_n 0, 1), (1, .iconst 0, 1), (2, .putfield 3, 3), (5, .iconst 0, 1), (6, .istore_n 2, 1), (7, .iconst 0, 1), (8, .istore_n 3, 1), (9, .iload_n 3, 1), (10, .aload_n 0, 1), (11, .invokevirtual 77, 3), (14, .if_icmp .ge 17, 3), (17, .iload_n 2, 1), (18, .aload_n 0, 1), (19, .iload_n 3, 1), (20, .invokevirtual 346, 3), (23, .iadd, 1), (24, .istore_n 2, 1), (25, .iinc 3 1, 3), (28, .goto (-19), 3), (31, .aload_n 0, 1), (32, .invokevirtual 299, 3), (35, .ifCond .eq 20, 3), (38, .iload_n 2, 1), (39, .bipush 10, 2), (41, .if_icmp .gt 14, 3), (44, .iload_n 1, 1), (45, .iconst 0, 1), (46, .iload_n 2, 1), (47, .iconst 1, 1), (48, .isub, 1), (49, .invokestatic 289, 3), (52, .ifCond .ne 5, 3), (55, .iconst (-1), 1), (56, .ireturn, 1), (57, .iconst 0, 1), (58, .istore_n 3, 1), (59, .iload_n 3, 1), (60, .bipush 81, 2), (62, .if_icmp .ge 34, 3), (65, .aload_n 0, 1), (66, .getfield 33, 3), (69, .iload_n 3, 1), (70, .iload_n 3, 1), (71, .bipush 32, 2), (73, .if_icmp .ge 15, 3), (76, .aload_n 0, 1), (77, .getfield 13, 3), (80, .bipush 64, 2), (82, .iload_n 3, 1), (83, .iadd, 1), (84, .iaload, 1), (85, .goto 4, 3), (88, .iconst 0, 1), (89, .iastore, 1), (90, .iinc 3 1, 3), (93, .goto (-34), 3), (96, .aload_n 0, 1), (97, .iconst 0, 1), (98, .iload_n 2, 1), (99, .invokevirtual 359, 3), (102, .ifCond .eq 12, 3), (105, .aload_n 0, 1), (106, .getfield 36, 3), (109, .iload_n 1, 1), (110, .iaload, 1), (111, .goto 4, 3), (114, .iconst (-1), 1), (115, .ireturn, 1)]
def zk_9_106 : List (Nat × Instr × Nat) := zk_9_106_0
def zk_9_107_0 : List (Nat × Instr × Nat) := [(0, .iconst 0, 1), (1, .istore_n 2, 1), (2, .iload_n 2, 1), (3, .aload_n 1, 1), (4, .invokevirtual 181, 3), (7, .if_icmp .ge 34, 3), (10, .aload_n 0, 1), (11, .getfield 39, 3), (14, .aload_n 0, 1), (15, .getfield 362, 3), (18, .aload_n 1, 1), (19, .iload_n 2, 1), (20, .invokevirtual 186, 3), (23, .i2b, 1), (24, .bastore, 1), (25, .aload_n 0, 1), (26, .dup, 1), (27, .getfield 362, 3), (30, .iconst 1, 1), (31, .iadd, 1), (32, .putfield 362, 3), (35, .iinc 2 1, 3), (38, .goto (-36), 3), (41, .return_, 1)]
def zk_9_107 : List (Nat × Instr × Nat) := zk_9_107_0
def zk_9_108_0 : List (Nat × Instr × Nat) := [(0, .iload_n 1, 1), (1, .bipush 10, 2), (3, .if_icmp .lt 11, 3), (6, .aload_n 0, 1), (7, .iload_n 1, 1), (8, .bipush 10, 2), (10, .idiv, 1), (11, .invokevirtual 365, 3), (14, .aload_n 0, 1), (15, .getfield 39, 3), (18, .aload_n 0, 1), (19, .getfield 362, 3), (22, .bipush 48, 2), (24, .iload_n 1, 1), (25, .bipush 10, 2), (27, .irem, 1), (28, .iadd, 1), (29, .i2b, 1), (30, .bastore, 1), (31, .aload_n 0, 1), (32, .dup, 1), (33, .getfield 362, 3), (36, .iconst 1, 1), (37, .iadd, 1), (38, .putfield 362, 3), (41, .return_, 1)]
def zk_9_108 : List (Nat × Instr × Nat) := zk_9_108_0
def zk_9_109_0 : List (Nat × Instr × Nat) := [(0, .iload_n 1, 1), (1, .tableswitch 113 0 6 #[43, 53, 63, 73, 83, 93, 103], 43), (44, .aload_n 0, 1), (45, .ldc_w 368, 3), (48, .invokevirtual 370, 3), (51, .goto 69, 3), (54, .aload_n 0, 1), (55, .ldc_w 374, 3), (58, .invokevirtual 370, 3), (61, .goto 59, 3), (64, .aload_n 0, 1), (65, .ldc_w 376, 3), (68, .invokevirtual 370, 3), (71, .goto 49, 3), (74, .aload_n 0, 1), (75, .ldc_w 378, 3), (78, .invokevirtual 370, 3), (81, .goto 39, 3), (84, .aload_n 0, 1), (85, .ldc_w 380, 3), (88, .invokevirtual 370, 3), (91, .goto 29, 3), (94, .aload_n 0, 1), (95, .ldc_w 382, 3), (98, .invokevirtual 370, 3), (101, .goto 19, 3), (104, .aload_n 0, 1), (105, .ldc_w 384, 3), (108, .invokevirtual 370, 3), (111, .goto 9, 3), (114, .aload_n 0, 1), (115, .ldc 211, 2), (117, .invokevirtual 370, 3), (120, .iload_n 1, 1), (121, .bipush 7, 2), (123, .if_icmp .eq 8, 3), (126, .aload_n 0, 1), (127, .iload_n 2, 1), (128, .invokevirtual 365, 3), (131, .return_, 1)]
def zk_9_109 : List (Nat × Instr × Nat) := zk_9_109_0
def zk_9_110_0 : List (Nat × Instr × Nat) := [(0, .aload_n 0, 1), (1, .iload_n 1, 1), (2, .invokevirtual 292, 3), (5, .ifCond .eq 5, 3), (8, .iconst 0, 1), (9, .ireturn, 1), (10, .aload_n 0, 1), (11, .iconst 0, 1), (12, .putfield 362, 3), (15, .aload_n 0, 1), (16, .ldc_w 386, 3), (19, .invokevirtual 370, 3), (22, .iconst 0, 1), (23, .istore_n 2, 1), (24, .iload_n 2, 1), (25, .aload_n 0, 1), (26, .iload_n 1, 1), (27, .bipush 22, 2), (29, .invokevirtual 54, 3), (32, .if_icmp .ge 38, 3), (35, .iload_n 2, 1), (36, .ifCond .le 10, 3), (39, .aload_n 0, 1), (40, .ldc_w 388, 3), (43, .invokevirtual 370, 3), (46, .aload_n 0, 1), (47, .aload_n 0, 1), (48, .iload_n 1, 1), (49, .iload_n 2, 1), (50, .iconst 0, 1), (51, .invokevirtual 146, 3), (54, .aload_n 0, 1), (55, .iload_n 1, 1), (56, .iload_n 2, 1), (57, .iconst 1, 1), (58, .invokevirtual 146, 3), (61, .invokevirtual 390, 3), (64, .iinc 2 1, 3), (67, .goto (-43), 3), (70, .aload_n 0, 1), (71, .getfield 362, 3), (74, .ireturn, 1)]
def zk_9_110 : List (Nat × Instr × Nat) := zk_9_110_0
def zk_9_111_0 : List (Nat × Instr × Nat) := [(0, .aload_n 0, 1), (1, .iconst 0, 1), (2, .putfield 3, 3), (5, .iload_n 1, 1), (6, .iconst 0, 1), (7, .aload_n 0, 1), (8, .getfield 362, 3), (11, .iconst 1, 1), (12, .isub, 1), (13, .invokestatic 289, 3), (16, .ifCond .eq 12, 3), (19, .aload_n 0, 1), (20, .getfield 39, 3), (23, .iload_n 1, 1), (24, .baload, 1), (25, .goto 4, 3), (28, .iconst (-1), 1), (29, .ireturn, 1)]
def zk_9_111 : List (Nat × Instr × Nat) := zk_9_111_0
def zmc_9 : List zMt := [(yX9_thrown, cX9_thrown, 1, (some FieldType.int), [], zk_9_0),
  (yX9_throwsIf, cX9_throwsIf, 3, (some FieldType.boolean), [], zk_9_1),
  (yX9_in, cX9_in, 3, (some FieldType.boolean), [], zk_9_2),
  (yX9_holds, cX9_holds, 2, (some FieldType.boolean), [], zk_9_3),
  (yX9_bits, cX9_bits, 3, (some FieldType.int), [], zk_9_4),
  (yX9_init, cX9_init, 2, (none : Option FieldType), [], zk_9_5),
  (yX9_copies, cX9_copies, 3, (none : Option FieldType), [], zk_9_6),
  (yX9_image, cX9_image, 1, (none : Option FieldType), [], zk_9_7),
  (yX9_back, cX9_back, 1, (some FieldType.boolean), [], zk_9_8),
  (yX9_threads, cX9_threads, 1, (some FieldType.int), [], zk_9_9),
  (yX9_at, cX9_at, 2, (some FieldType.int), [], zk_9_10),
  (yX9_of, cX9_of, 3, (some FieldType.int), [], zk_9_11),
  (yX9_isDone, cX9_isDone, 2, (some FieldType.boolean), [], zk_9_12),
  (yX9_deedOf, cX9_deedOf, 4, (some FieldType.int), [], zk_9_13),
  (yX9_blockOf, cX9_blockOf, 2, (some FieldType.int), [], zk_9_14),
  (yX9_logs, cX9_logs, 5, (none : Option FieldType), [], zk_9_15),
  (yX9_ends, cX9_ends, 2, (none : Option FieldType), [], zk_9_16),
  (yX9_falls, cX9_falls, 4, (none : Option FieldType), [], zk_9_17),
  (yX9_itFalls, cX9_itFalls, 3, (none : Option FieldType), [], zk_9_18),
  (yX9_clashing, cX9_clashing, 7, (some FieldType.int), [], zk_9_19),
  (yX9_yields, cX9_yields, 5, (some FieldType.boolean), [], zk_9_20),
  (yX9_clears, cX9_clears, 4, (some FieldType.boolean), [], zk_9_21),
  (yX9_seen, cX9_seen, 3, (some FieldType.int), [], zk_9_22),
  (yX9_reads, cX9_reads, 3, (some FieldType.boolean), [], zk_9_23),
  (yX9_writes, cX9_writes, 6, (some FieldType.boolean), [], zk_9_24),
  (yX9_placeLeft, cX9_placeLeft, 5, (some FieldType.int), [], zk_9_25),
  (yX9_leavesOut, cX9_leavesOut, 3, (none : Option FieldType), [], zk_9_26),
  (yX9_beginsGuess, cX9_beginsGuess, 3, (none : Option FieldType), [], zk_9_27),
  (yX9_isTaken, cX9_isTaken, 3, (none : Option FieldType), [], zk_9_28),
  (yX9_takes, cX9_takes, 5, (some FieldType.boolean), [], zk_9_29),
  (yX9_isKept, cX9_isKept, 4, (none : Option FieldType), [], zk_9_30),
  (yX9_drops, cX9_drops, 5, (some FieldType.boolean), [], zk_9_31),
  (yX9_works, cX9_works, 3, (some FieldType.boolean), [], zk_9_32),
  (yX9_putsOut, cX9_putsOut, 2, (some FieldType.boolean), [], zk_9_33),
  (yX9_does, cX9_does, 4, (some FieldType.boolean), [], zk_9_34),
  (yX9_steps, cX9_steps, 4, (some FieldType.int), [], zk_9_35),
  (yX9_doneOnes, cX9_doneOnes, 3, (some FieldType.int), [], zk_9_36),
  (yX9_areAllDone, cX9_areAllDone, 1, (some FieldType.boolean), [], zk_9_37),
  (yX9_nextOne, cX9_nextOne, 3, (some FieldType.int), [], zk_9_38),
  (yX9_drawOf, cX9_drawOf, 2, (some FieldType.int), [], zk_9_39),
  (yX9_drawnOne, cX9_drawnOne, 3, (some FieldType.int), [], zk_9_40),
  (yX9_feed, cX9_feed, 7, (some FieldType.int), [], zk_9_41),
  (yX9_end, cX9_end, 2, (some FieldType.boolean), [], zk_9_42),
  (yX9_fault, cX9_fault, 1, (some FieldType.int), [], zk_9_43),
  (yX9_isAt, cX9_isAt, 3, (some FieldType.boolean), [], zk_9_44),
  (yX9_blanks, cX9_blanks, 1, (none : Option FieldType), [], zk_9_45),
  (yX9_letters, cX9_letters, 1, (none : Option FieldType), [], zk_9_46),
  (yX9_isWord, cX9_isWord, 4, (some FieldType.boolean), [], zk_9_47),
  (yX9_passesSign, cX9_passesSign, 2, (some FieldType.boolean), [], zk_9_48),
  (yX9_number, cX9_number, 4, (some FieldType.int), [], zk_9_49),
  (yX9_readTo, cX9_readTo, 5, (some FieldType.boolean), [], zk_9_50),
  (yX9_kindHere, cX9_kindHere, 1, (some FieldType.int), [], zk_9_51),
  (yX9_readDeed, cX9_readDeed, 4, (some FieldType.boolean), [], zk_9_52),
  (yX9_readThread, cX9_readThread, 3, (some FieldType.boolean), [], zk_9_53),
  (yX9_readWordLine, cX9_readWordLine, 3, (some FieldType.boolean), [], zk_9_54),
  (yX9_readLock, cX9_readLock, 5, (some FieldType.boolean), [], zk_9_55),
  (yX9_readTrust, cX9_readTrust, 3, (some FieldType.boolean), [], zk_9_56),
  (yX9_leastOf, cX9_leastOf, 1, (some FieldType.int), [], zk_9_57),
  (yX9_mostOf, cX9_mostOf, 1, (some FieldType.int), [], zk_9_58),
  (yX9_termHere, cX9_termHere, 1, (some FieldType.int), [], zk_9_59),
  (yX9_readLine, cX9_readLine, 2, (some FieldType.boolean), [], zk_9_60),
  (yX9_readText, cX9_readText, 2, (some FieldType.boolean), [], zk_9_61),
  (yX9_machine, cX9_machine, 2, (some FieldType.int), [], zk_9_62),
  (yX9_noThread, cX9_noThread, 2, (some FieldType.boolean), [], zk_9_63),
  (yX9_step, cX9_step, 2, (some FieldType.int), [], zk_9_64),
  (yX9_goes, cX9_goes, 5, (some FieldType.int), [], zk_9_65),
  (yX9_run, cX9_run, 2, (some FieldType.int), [], zk_9_66),
  (yX9_chance, cX9_chance, 2, (some FieldType.int), [], zk_9_67),
  (yX9_poke, cX9_poke, 5, (some FieldType.int), [], zk_9_68),
  (yX9_tune, cX9_tune, 4, (some FieldType.int), [], zk_9_69),
  (yX9_seed, cX9_seed, 3, (some FieldType.int), [], zk_9_70),
  (yX9_fellOf, cX9_fellOf, 4, (some FieldType.int), [], zk_9_71),
  (yX9_thread, cX9_thread, 3, (some FieldType.int), [], zk_9_72),
  (yX9_leftOut, cX9_leftOut, 3, (some FieldType.int), [], zk_9_73),
  (yX9_blocks, cX9_blocks, 3, (some FieldType.int), [], zk_9_74),
  (yX9_fell, cX9_fell, 5, (some FieldType.int), [], zk_9_75),
  (yX9_noWord, cX9_noWord, 2, (some FieldType.boolean), [], zk_9_76),
  (yX9_word, cX9_word, 2, (some FieldType.int), [], zk_9_77),
  (yX9_sees, cX9_sees, 3, (some FieldType.int), [], zk_9_78),
  (yX9_leavers, cX9_leavers, 4, (some FieldType.int), [], zk_9_79),
  (yX9_lock, cX9_lock, 3, (some FieldType.int), [], zk_9_80),
  (yX9_term, cX9_term, 2, (some FieldType.int), [], zk_9_81),
  (yX9_deed, cX9_deed, 4, (some FieldType.int), [], zk_9_82),
  (yX9_output, cX9_output, 3, (some FieldType.int), [], zk_9_83),
  (yX9_log, cX9_log, 3, (some FieldType.int), [], zk_9_84),
  (yX9_guessing, cX9_guessing, 3, (some FieldType.int), [], zk_9_85),
  (yX9_keptAll, cX9_keptAll, 3, (some FieldType.int), [], zk_9_86),
  (yX9_heldLocks, cX9_heldLocks, 3, (some FieldType.int), [], zk_9_87),
  (yX9_count, cX9_count, 2, (some FieldType.int), [], zk_9_88),
  (yX9_dueOf, cX9_dueOf, 3, (some FieldType.int), [], zk_9_89),
  (yX9_due, cX9_due, 3, (some FieldType.int), [], zk_9_90),
  (yX9_dueBy, cX9_dueBy, 3, (some FieldType.int), [], zk_9_91),
  (yX9_quickest, cX9_quickest, 6, (some FieldType.int), [], zk_9_92),
  (yX9_plain, cX9_plain, 1, (some FieldType.int), [], zk_9_93),
  (yX9_touched, cX9_touched, 9, (some FieldType.int), [], zk_9_94),
  (yX9_touches, cX9_touches, 3, (some FieldType.int), [], zk_9_95),
  (yX9_rivals, cX9_rivals, 3, (some FieldType.int), [], zk_9_96),
  (yX9_heldBehind, cX9_heldBehind, 6, (some FieldType.int), [], zk_9_97),
  (yX9_nest, cX9_nest, 5, (some FieldType.int), [], zk_9_98),
  (yX9_behindPart, cX9_behindPart, 5, (some FieldType.int), [], zk_9_99),
  (yX9_partsOf, cX9_partsOf, 4, (some FieldType.int), [], zk_9_100),
  (yX9_parts, cX9_parts, 2, (some FieldType.int), [], zk_9_101),
  (yX9_doesDeed, cX9_doesDeed, 6, (some FieldType.boolean), [], zk_9_102),
  (yX9_putsWhole, cX9_putsWhole, 4, (none : Option FieldType), [], zk_9_103),
  (yX9_isAsNow, cX9_isAsNow, 4, (some FieldType.boolean), [], zk_9_104),
  (yX9_orders, cX9_orders, 9, (some FieldType.boolean), [], zk_9_105),
  (yX9_serial, cX9_serial, 4, (some FieldType.int), [], zk_9_106),
  (yX9_prints, cX9_prints, 3, (none : Option FieldType), [], zk_9_107),
  (yX9_printsNumber, cX9_printsNumber, 2, (none : Option FieldType), [], zk_9_108),
  (yX9_printsDeed, cX9_printsDeed, 3, (none : Option FieldType), [], zk_9_109),
  (yX9_text, cX9_text, 3, (some FieldType.int), [], zk_9_110),
  (yX9_octet, cX9_octet, 2, (some FieldType.int), [], zk_9_111)]
def zk_10_0_0 : List (Nat × Instr × Nat) := [(0, .aload_n 1, 1), (1, .iconst 0, 1), (2, .aload_n 0, 1), (3, .invokevirtual 7, 3), (6, .i2l, 1), (7, .lastore, 1), (8, .goto 9, 3), (11, .astore_n 2, 1), (12, .iconst 1, 1), (13, .ireturn, 1), (14, .astore_n 2, 1), (15, .iconst 2, 1), (16, .ireturn, 1), (17, .iconst 0, 1), (18, .ireturn, 1)]
def zk_10_0 : List (Nat × Instr × Nat) := zk_10_0_0
def zk_10_1_0 : List (Nat × Instr × Nat) := [(0, .aload_n 3, 1), (1, .iconst 0, 1), (2, .aload_n 0, 1), (3, .iload_n 1, 1), (4, .iload_n 2, 1), (5, .invokevirtual 17, 3), (8, .i2l, 1), (9, .lastore, 1), (10, .goto 11, 3), (13, .astore 4, 2), (15, .iconst 1, 1), (16, .ireturn, 1), (17, .astore 4, 2), (19, .iconst 2, 1), (20, .ireturn, 1), (21, .iconst 0, 1), (22, .ireturn, 1)]
def zk_10_1 : List (Nat × Instr × Nat) := zk_10_1_0
def zk_10_2_0 : List (Nat × Instr × Nat) := [(0, .aload_n 3, 1), (1, .iconst 0, 1), (2, .aload_n 0, 1), (3, .iload_n 1, 1), (4, .iload_n 2, 1), (5, .invokevirtual 25, 3), (8, .i2l, 1), (9, .lastore, 1), (10, .goto 7, 3), (13, .astore 4, 2), (15, .iconst 1, 1), (16, .ireturn, 1), (17, .iconst 0, 1), (18, .ireturn, 1)]
def zk_10_2 : List (Nat × Instr × Nat) := zk_10_2_0
def zk_10_3_0 : List (Nat × Instr × Nat) := [(0, .aload_n 3, 1), (1, .iconst 0, 1), (2, .aload_n 0, 1), (3, .iload_n 1, 1), (4, .iload_n 2, 1), (5, .invokevirtual 28, 3), (8, .i2l, 1), (9, .lastore, 1), (10, .goto 11, 3), (13, .astore 4, 2), (15, .iconst 1, 1), (16, .ireturn, 1), (17, .astore 4, 2), (19, .iconst 2, 1), (20, .ireturn, 1), (21, .iconst 0, 1), (22, .ireturn, 1)]
def zk_10_3 : List (Nat × Instr × Nat) := zk_10_3_0
def zk_10_4_0 : List (Nat × Instr × Nat) := [(0, .aload_n 3, 1), (1, .iconst 0, 1), (2, .aload_n 0, 1), (3, .iload_n 1, 1), (4, .iload_n 2, 1), (5, .invokevirtual 31, 3), (8, .i2l, 1), (9, .lastore, 1), (10, .goto 11, 3), (13, .astore 4, 2), (15, .iconst 1, 1), (16, .ireturn, 1), (17, .astore 4, 2), (19, .iconst 2, 1), (20, .ireturn, 1), (21, .iconst 0, 1), (22, .ireturn, 1)]
def zk_10_4 : List (Nat × Instr × Nat) := zk_10_4_0
def zk_10_5_0 : List (Nat × Instr × Nat) := [(0, .aload_n 2, 1), (1, .iconst 0, 1), (2, .aload_n 0, 1), (3, .iload_n 1, 1), (4, .invokevirtual 34, 3), (7, .i2l, 1), (8, .lastore, 1), (9, .goto 6, 3), (12, .astore_n 3, 1), (13, .iconst 1, 1), (14, .ireturn, 1), (15, .iconst 0, 1), (16, .ireturn, 1)]
def zk_10_5 : List (Nat × Instr × Nat) := zk_10_5_0
def zk_10_6_0 : List (Nat × Instr × Nat) := [(0, .aload_n 3, 1), (1, .iconst 0, 1), (2, .aload_n 0, 1), (3, .iload_n 1, 1), (4, .iload_n 2, 1), (5, .invokevirtual 38, 3), (8, .i2l, 1), (9, .lastore, 1), (10, .goto 7, 3), (13, .astore 4, 2), (15, .iconst 1, 1), (16, .ireturn, 1), (17, .iconst 0, 1), (18, .ireturn, 1)]
def zk_10_6 : List (Nat × Instr × Nat) := zk_10_6_0
def zk_10_7_0 : List (Nat × Instr × Nat) := [(0, .aload_n 3, 1), (1, .iconst 0, 1), (2, .aload_n 0, 1), (3, .iload_n 1, 1), (4, .iload_n 2, 1), (5, .invokevirtual 41, 3), (8, .i2l, 1), (9, .lastore, 1), (10, .goto 11, 3), (13, .astore 4, 2), (15, .iconst 1, 1), (16, .ireturn, 1), (17, .astore 4, 2), (19, .iconst 2, 1), (20, .ireturn, 1), (21, .iconst 0, 1), (22, .ireturn, 1)]
def zk_10_7 : List (Nat × Instr × Nat) := zk_10_7_0
def zk_10_8_0 : List (Nat × Instr × Nat) := [(0, .aload_n 2, 1), (1, .iconst 0, 1), (2, .aload_n 0, 1), (3, .iload_n 1, 1), (4, .invokevirtual 44, 3), (7, .i2l, 1), (8, .lastore, 1), (9, .goto 6, 3), (12, .astore_n 3, 1), (13, .iconst 1, 1), (14, .ireturn, 1), (15, .iconst 0, 1), (16, .ireturn, 1)]
def zk_10_8 : List (Nat × Instr × Nat) := zk_10_8_0
def zk_10_9_0 : List (Nat × Instr × Nat) := [(0, .aload 4, 2), (2, .iconst 0, 1), (3, .aload_n 0, 1), (4, .iload_n 1, 1), (5, .iload_n 2, 1), (6, .iload_n 3, 1), (7, .invokevirtual 47, 3), (10, .i2l, 1), (11, .lastore, 1), (12, .goto 11, 3), (15, .astore 5, 2), (17, .iconst 1, 1), (18, .ireturn, 1), (19, .astore 5, 2), (21, .iconst 2, 1), (22, .ireturn, 1), (23, .iconst 0, 1), (24, .ireturn, 1)]
def zk_10_9 : List (Nat × Instr × Nat) := zk_10_9_0
def zk_10_10_0 : List (Nat × Instr × Nat) := [(0, .aload_n 2, 1), (1, .iconst 0, 1), (2, .aload_n 0, 1), (3, .iload_n 1, 1), (4, .invokevirtual 51, 3), (7, .i2l, 1), (8, .lastore, 1), (9, .goto 9, 3), (12, .astore_n 3, 1), (13, .iconst 1, 1), (14, .ireturn, 1), (15, .astore_n 3, 1), (16, .iconst 2, 1), (17, .ireturn, 1), (18, .iconst 0, 1), (19, .ireturn, 1)]
def zk_10_10 : List (Nat × Instr × Nat) := zk_10_10_0
def zk_10_11_0 : List (Nat × Instr × Nat) := [(0, .aload_n 2, 1), (1, .iconst 0, 1), (2, .aload_n 0, 1), (3, .iload_n 1, 1), (4, .invokevirtual 56, 3), (7, .i2l, 1), (8, .lastore, 1), (9, .goto 6, 3), (12, .astore_n 3, 1), (13, .iconst 1, 1), (14, .ireturn, 1), (15, .iconst 0, 1), (16, .ireturn, 1)]
def zk_10_11 : List (Nat × Instr × Nat) := zk_10_11_0
def zk_10_12_0 : List (Nat × Instr × Nat) := [(0, .aload_n 2, 1), (1, .iconst 0, 1), (2, .aload_n 0, 1), (3, .iload_n 1, 1), (4, .invokevirtual 59, 3), (7, .i2l, 1), (8, .lastore, 1), (9, .goto 6, 3), (12, .astore_n 3, 1), (13, .iconst 1, 1), (14, .ireturn, 1), (15, .iconst 0, 1), (16, .ireturn, 1)]
def zk_10_12 : List (Nat × Instr × Nat) := zk_10_12_0
def zk_10_13_0 : List (Nat × Instr × Nat) := [(0, .aload_n 3, 1), (1, .iconst 0, 1), (2, .aload_n 0, 1), (3, .iload_n 1, 1), (4, .iload_n 2, 1), (5, .invokevirtual 62, 3), (8, .i2l, 1), (9, .lastore, 1), (10, .goto 11, 3), (13, .astore 4, 2), (15, .iconst 1, 1), (16, .ireturn, 1), (17, .astore 4, 2), (19, .iconst 2, 1), (20, .ireturn, 1), (21, .iconst 0, 1), (22, .ireturn, 1)]
def zk_10_13 : List (Nat × Instr × Nat) := zk_10_13_0
def zk_10_14_0 : List (Nat × Instr × Nat) := [(0, .aload_n 3, 1), (1, .iconst 0, 1), (2, .aload_n 0, 1), (3, .iload_n 1, 1), (4, .iload_n 2, 1), (5, .invokevirtual 65, 3), (8, .i2l, 1), (9, .lastore, 1), (10, .goto 11, 3), (13, .astore 4, 2), (15, .iconst 1, 1), (16, .ireturn, 1), (17, .astore 4, 2), (19, .iconst 2, 1), (20, .ireturn, 1), (21, .iconst 0, 1), (22, .ireturn, 1)]
def zk_10_14 : List (Nat × Instr × Nat) := zk_10_14_0
def zk_10_15_0 : List (Nat × Instr × Nat) := [(0, .aload_n 2, 1), (1, .iconst 0, 1), (2, .aload_n 0, 1), (3, .iload_n 1, 1), (4, .invokevirtual 68, 3), (7, .i2l, 1), (8, .lastore, 1), (9, .goto 6, 3), (12, .astore_n 3, 1), (13, .iconst 1, 1), (14, .ireturn, 1), (15, .iconst 0, 1), (16, .ireturn, 1)]
def zk_10_15 : List (Nat × Instr × Nat) := zk_10_15_0
def zk_10_16_0 : List (Nat × Instr × Nat) := [(0, .aload_n 2, 1), (1, .iconst 0, 1), (2, .aload_n 0, 1), (3, .iload_n 1, 1), (4, .invokevirtual 71, 3), (7, .i2l, 1), (8, .lastore, 1), (9, .goto 6, 3), (12, .astore_n 3, 1), (13, .iconst 1, 1), (14, .ireturn, 1), (15, .iconst 0, 1), (16, .ireturn, 1)]
def zk_10_16 : List (Nat × Instr × Nat) := zk_10_16_0
def zk_10_17_0 : List (Nat × Instr × Nat) := [(0, .aload_n 3, 1), (1, .iconst 0, 1), (2, .aload_n 0, 1), (3, .iload_n 1, 1), (4, .iload_n 2, 1), (5, .invokevirtual 74, 3), (8, .i2l, 1), (9, .lastore, 1), (10, .goto 11, 3), (13, .astore 4, 2), (15, .iconst 1, 1), (16, .ireturn, 1), (17, .astore 4, 2), (19, .iconst 2, 1), (20, .ireturn, 1), (21, .iconst 0, 1), (22, .ireturn, 1)]
def zk_10_17 : List (Nat × Instr × Nat) := zk_10_17_0
def zk_10_18_0 : List (Nat × Instr × Nat) := [(0, .aload_n 3, 1), (1, .iconst 0, 1), (2, .aload_n 0, 1), (3, .iload_n 1, 1), (4, .iload_n 2, 1), (5, .invokevirtual 77, 3), (8, .i2l, 1), (9, .lastore, 1), (10, .goto 11, 3), (13, .astore 4, 2), (15, .iconst 1, 1), (16, .ireturn, 1), (17, .astore 4, 2), (19, .iconst 2, 1), (20, .ireturn, 1), (21, .iconst 0, 1), (22, .ireturn, 1)]
def zk_10_18 : List (Nat × Instr × Nat) := zk_10_18_0
def zk_10_19_0 : List (Nat × Instr × Nat) := [(0, .aload_n 2, 1), (1, .iconst 0, 1), (2, .aload_n 0, 1), (3, .iload_n 1, 1), (4, .invokevirtual 80, 3), (7, .i2l, 1), (8, .lastore, 1), (9, .goto 6, 3), (12, .astore_n 3, 1), (13, .iconst 1, 1), (14, .ireturn, 1), (15, .iconst 0, 1), (16, .ireturn, 1)]
def zk_10_19 : List (Nat × Instr × Nat) := zk_10_19_0
def zk_10_20_0 : List (Nat × Instr × Nat) := [(0, .aload_n 2, 1), (1, .iconst 0, 1), (2, .aload_n 0, 1), (3, .iload_n 1, 1), (4, .invokevirtual 83, 3), (7, .i2l, 1), (8, .lastore, 1), (9, .goto 6, 3), (12, .astore_n 3, 1), (13, .iconst 1, 1), (14, .ireturn, 1), (15, .iconst 0, 1), (16, .ireturn, 1)]
def zk_10_20 : List (Nat × Instr × Nat) := zk_10_20_0
def zk_10_21_0 : List (Nat × Instr × Nat) := [(0, .aload_n 3, 1), (1, .iconst 0, 1), (2, .aload_n 0, 1), (3, .iload_n 1, 1), (4, .iload_n 2, 1), (5, .invokevirtual 86, 3), (8, .i2l, 1), (9, .lastore, 1), (10, .goto 7, 3), (13, .astore 4, 2), (15, .iconst 1, 1), (16, .ireturn, 1), (17, .iconst 0, 1), (18, .ireturn, 1)]
def zk_10_21 : List (Nat × Instr × Nat) := zk_10_21_0
def zk_10_22_0 : List (Nat × Instr × Nat) := [(0, .aload_n 3, 1), (1, .iconst 0, 1), (2, .aload_n 0, 1), (3, .iload_n 1, 1), (4, .iload_n 2, 1), (5, .invokevirtual 89, 3), (8, .i2l, 1), (9, .lastore, 1), (10, .goto 7, 3), (13, .astore 4, 2), (15, .iconst 1, 1), (16, .ireturn, 1), (17, .iconst 0, 1), (18, .ireturn, 1)]
def zk_10_22 : List (Nat × Instr × Nat) := zk_10_22_0
def zk_10_23_0 : List (Nat × Instr × Nat) := [(0, .aload_n 2, 1), (1, .iconst 0, 1), (2, .aload_n 0, 1), (3, .iload_n 1, 1), (4, .invokevirtual 92, 3), (7, .i2l, 1), (8, .lastore, 1), (9, .goto 6, 3), (12, .astore_n 3, 1), (13, .iconst 1, 1), (14, .ireturn, 1), (15, .iconst 0, 1), (16, .ireturn, 1)]
def zk_10_23 : List (Nat × Instr × Nat) := zk_10_23_0
def zk_10_24_0 : List (Nat × Instr × Nat) := [(0, .new 8, 3), (3, .dup, 1), (4, .invokespecial 95, 3), (7, .astore_n 1, 1), (8, .new 96, 3), (11, .dup, 1), (12, .invokespecial 98, 3), (15, .astore_n 2, 1), (16, .iconst 1, 1), (17, .newarray .long, 2), (19, .astore_n 3, 1), (20, .iconst 0, 1), (21, .istore 4, 2), (23, .iload 4, 2), (25, .aload_n 0, 1), (26, .arraylength, 1), (27, .bipush 6, 2), (29, .isub, 1), (30, .if_icmp .gt 1916, 3), (33, .aload_n 0, 1), (34, .iload 4, 2), (36, .iaload, 1), (37, .bipush 63, 2), (39, .iand, 1), (40, .tableswitch 1900 0 33 #[152, 225, 250, 294, 307, 375, 443, 511, 579, 635, 703, 771, 827, 907, 963, 1019, 1075, 1143, 1211, 1236, 1292, 1348, 1361, 1429, 1497, 1553, 1609, 1634, 1702, 1770, 1826, 1851, 1862, 1875], 152), (192, .aload_n 1, 1), (193, .aload_n 0, 1), (194, .iload 4, 2), (196, .iconst 1, 1), (197, .iadd, 1), (198, .iaload, 1), (199, .aload_n 0, 1), (200, .iload 4, 2), (202, .iconst 2, 1), (203, .iadd, 1), (204, .iaload, 1), (205, .aload_n 0, 1), (206, .iload 4, 2), (208, .iconst 3, 1), (209, .iadd, 1), (210, .iaload, 1), (211, .aload_n 0, 1), (212, .iload 4, 2), (214, .iconst 4, 1), (215, .iadd, 1), (216, .iaload, 1), (217, .aload_n 0, 1), (218, .iload 4, 2), (220, .iconst 5, 1), (221, .iadd, 1), (222, .iaload, 1), (223, .invokevirtual 99, 3), (226, .aload_n 2, 1), (227, .aload_n 0, 1), (228, .iload 4, 2), (230, .iconst 1, 1), (231, .iadd, 1), (232, .iaload, 1), (233, .aload_n 0, 1), (234, .iload 4, 2), (236, .iconst 2, 1), (237, .iadd, 1), (238, .iaload, 1), (239, .aload_n 0, 1), (240, .iload 4, 2), (242, .iconst 3, 1), (243, .iadd, 1), (244, .iaload, 1), (245, .aload_n 0, 1), (246, .iload 4, 2), (248, .iconst 4, 1), (249, .iadd, 1), (250, .iaload, 1), (251, .aload_n 0, 1), (252, .iload 4, 2), (254, .iconst 5, 1), (255, .iadd, 1), (256, .iaload, 1), (257, .invokevirtual 103, 3), (260, .if_icmp .eq 1680, 3), (263, .iconst 0, 1), (264, .ireturn, 1), (265, .aload_n 1, 1), (266, .aload_n 0, 1), (267, .iload 4, 2), (269, .iconst 1, 1), (270, .iadd, 1), (271, .iaload, 1), (272, .invokevirtual 104, 3), (275, .aload_n 2, 1), (276, .aload_n 0, 1), (277, .iload 4, 2), (279, .iconst 1, 1), (280, .iadd, 1), (281, .iaload, 1), (282, .invokevirtual 108, 3), (285, .if_icmp .eq 1655, 3), (288, .iconst 0, 1), (289, .ireturn, 1), (290, .aload_n 1, 1)]
def zk_10_24_1 : List (Nat × Instr × Nat) := [(291, .aload_n 3, 1), (292, .invokestatic 109, 3), (295, .istore 5, 2), (297, .aload_n 2, 1), (298, .invokevirtual 114, 3), (301, .istore 6, 2), (303, .aload_n 2, 1), (304, .invokevirtual 115, 3), (307, .iload 5, 2), (309, .if_icmp .eq 5, 3), (312, .iconst 0, 1), (313, .ireturn, 1), (314, .iload 5, 2), (316, .ifCond .ne 15, 3), (319, .aload_n 3, 1), (320, .iconst 0, 1), (321, .laload, 1), (322, .iload 6, 2), (324, .i2l, 1), (325, .lcmp, 1), (326, .ifCond .eq 5, 3), (329, .iconst 0, 1), (330, .ireturn, 1), (331, .goto 1609, 3), (334, .aload_n 1, 1), (335, .invokevirtual 118, 3), (338, .aload_n 2, 1), (339, .invokevirtual 121, 3), (342, .if_icmp .eq 1598, 3), (345, .iconst 0, 1), (346, .ireturn, 1), (347, .aload_n 1, 1), (348, .aload_n 0, 1), (349, .iload 4, 2), (351, .iconst 1, 1), (352, .iadd, 1), (353, .iaload, 1), (354, .aload_n 0, 1), (355, .iload 4, 2), (357, .iconst 2, 1), (358, .iadd, 1), (359, .iaload, 1), (360, .aload_n 3, 1), (361, .invokestatic 122, 3), (364, .istore 5, 2), (366, .aload_n 2, 1), (367, .aload_n 0, 1), (368, .iload 4, 2), (370, .iconst 1, 1), (371, .iadd, 1), (372, .iaload, 1), (373, .aload_n 0, 1), (374, .iload 4, 2), (376, .iconst 2, 1), (377, .iadd, 1), (378, .iaload, 1), (379, .invokevirtual 125, 3), (382, .istore 6, 2), (384, .aload_n 2, 1), (385, .invokevirtual 115, 3), (388, .iload 5, 2), (390, .if_icmp .eq 5, 3), (393, .iconst 0, 1), (394, .ireturn, 1), (395, .iload 5, 2), (397, .ifCond .ne 15, 3), (400, .aload_n 3, 1), (401, .iconst 0, 1), (402, .laload, 1), (403, .iload 6, 2), (405, .i2l, 1), (406, .lcmp, 1), (407, .ifCond .eq 5, 3), (410, .iconst 0, 1), (411, .ireturn, 1), (412, .goto 1528, 3), (415, .aload_n 1, 1), (416, .aload_n 0, 1), (417, .iload 4, 2), (419, .iconst 1, 1), (420, .iadd, 1), (421, .iaload, 1), (422, .aload_n 0, 1), (423, .iload 4, 2), (425, .iconst 2, 1), (426, .iadd, 1), (427, .iaload, 1), (428, .aload_n 3, 1), (429, .invokestatic 126, 3), (432, .istore 5, 2), (434, .aload_n 2, 1), (435, .aload_n 0, 1), (436, .iload 4, 2), (438, .iconst 1, 1), (439, .iadd, 1), (440, .iaload, 1), (441, .aload_n 0, 1), (442, .iload 4, 2), (444, .iconst 2, 1), (445, .iadd, 1)]
def zk_10_24_2 : List (Nat × Instr × Nat) := [(446, .iaload, 1), (447, .invokevirtual 128, 3), (450, .istore 6, 2), (452, .aload_n 2, 1), (453, .invokevirtual 115, 3), (456, .iload 5, 2), (458, .if_icmp .eq 5, 3), (461, .iconst 0, 1), (462, .ireturn, 1), (463, .iload 5, 2), (465, .ifCond .ne 15, 3), (468, .aload_n 3, 1), (469, .iconst 0, 1), (470, .laload, 1), (471, .iload 6, 2), (473, .i2l, 1), (474, .lcmp, 1), (475, .ifCond .eq 5, 3), (478, .iconst 0, 1), (479, .ireturn, 1), (480, .goto 1460, 3), (483, .aload_n 1, 1), (484, .aload_n 0, 1), (485, .iload 4, 2), (487, .iconst 1, 1), (488, .iadd, 1), (489, .iaload, 1), (490, .aload_n 0, 1), (491, .iload 4, 2), (493, .iconst 2, 1), (494, .iadd, 1), (495, .iaload, 1), (496, .aload_n 3, 1), (497, .invokestatic 129, 3), (500, .istore 5, 2), (502, .aload_n 2, 1), (503, .aload_n 0, 1), (504, .iload 4, 2), (506, .iconst 1, 1), (507, .iadd, 1), (508, .iaload, 1), (509, .aload_n 0, 1), (510, .iload 4, 2), (512, .iconst 2, 1), (513, .iadd, 1), (514, .iaload, 1), (515, .invokevirtual 131, 3), (518, .istore 6, 2), (520, .aload_n 2, 1), (521, .invokevirtual 115, 3), (524, .iload 5, 2), (526, .if_icmp .eq 5, 3), (529, .iconst 0, 1), (530, .ireturn, 1), (531, .iload 5, 2), (533, .ifCond .ne 15, 3), (536, .aload_n 3, 1), (537, .iconst 0, 1), (538, .laload, 1), (539, .iload 6, 2), (541, .i2l, 1), (542, .lcmp, 1), (543, .ifCond .eq 5, 3), (546, .iconst 0, 1), (547, .ireturn, 1), (548, .goto 1392, 3), (551, .aload_n 1, 1), (552, .aload_n 0, 1), (553, .iload 4, 2), (555, .iconst 1, 1), (556, .iadd, 1), (557, .iaload, 1), (558, .aload_n 0, 1), (559, .iload 4, 2), (561, .iconst 2, 1), (562, .iadd, 1), (563, .iaload, 1), (564, .aload_n 3, 1), (565, .invokestatic 132, 3), (568, .istore 5, 2), (570, .aload_n 2, 1), (571, .aload_n 0, 1), (572, .iload 4, 2), (574, .iconst 1, 1), (575, .iadd, 1), (576, .iaload, 1), (577, .aload_n 0, 1), (578, .iload 4, 2), (580, .iconst 2, 1), (581, .iadd, 1), (582, .iaload, 1), (583, .invokevirtual 134, 3), (586, .istore 6, 2), (588, .aload_n 2, 1), (589, .invokevirtual 115, 3), (592, .iload 5, 2), (594, .if_icmp .eq 5, 3), (597, .iconst 0, 1), (598, .ireturn, 1), (599, .iload 5, 2)]
def zk_10_24_3 : List (Nat × Instr × Nat) := [(601, .ifCond .ne 15, 3), (604, .aload_n 3, 1), (605, .iconst 0, 1), (606, .laload, 1), (607, .iload 6, 2), (609, .i2l, 1), (610, .lcmp, 1), (611, .ifCond .eq 5, 3), (614, .iconst 0, 1), (615, .ireturn, 1), (616, .goto 1324, 3), (619, .aload_n 1, 1), (620, .aload_n 0, 1), (621, .iload 4, 2), (623, .iconst 1, 1), (624, .iadd, 1), (625, .iaload, 1), (626, .aload_n 3, 1), (627, .invokestatic 135, 3), (630, .istore 5, 2), (632, .aload_n 2, 1), (633, .aload_n 0, 1), (634, .iload 4, 2), (636, .iconst 1, 1), (637, .iadd, 1), (638, .iaload, 1), (639, .invokevirtual 138, 3), (642, .istore 6, 2), (644, .aload_n 2, 1), (645, .invokevirtual 115, 3), (648, .iload 5, 2), (650, .if_icmp .eq 5, 3), (653, .iconst 0, 1), (654, .ireturn, 1), (655, .iload 5, 2), (657, .ifCond .ne 15, 3), (660, .aload_n 3, 1), (661, .iconst 0, 1), (662, .laload, 1), (663, .iload 6, 2), (665, .i2l, 1), (666, .lcmp, 1), (667, .ifCond .eq 5, 3), (670, .iconst 0, 1), (671, .ireturn, 1), (672, .goto 1268, 3), (675, .aload_n 1, 1), (676, .aload_n 0, 1), (677, .iload 4, 2), (679, .iconst 1, 1), (680, .iadd, 1), (681, .iaload, 1), (682, .aload_n 0, 1), (683, .iload 4, 2), (685, .iconst 2, 1), (686, .iadd, 1), (687, .iaload, 1), (688, .aload_n 3, 1), (689, .invokestatic 139, 3), (692, .istore 5, 2), (694, .aload_n 2, 1), (695, .aload_n 0, 1), (696, .iload 4, 2), (698, .iconst 1, 1), (699, .iadd, 1), (700, .iaload, 1), (701, .aload_n 0, 1), (702, .iload 4, 2), (704, .iconst 2, 1), (705, .iadd, 1), (706, .iaload, 1), (707, .invokevirtual 141, 3), (710, .istore 6, 2), (712, .aload_n 2, 1), (713, .invokevirtual 115, 3), (716, .iload 5, 2), (718, .if_icmp .eq 5, 3), (721, .iconst 0, 1), (722, .ireturn, 1), (723, .iload 5, 2), (725, .ifCond .ne 15, 3), (728, .aload_n 3, 1), (729, .iconst 0, 1), (730, .laload, 1), (731, .iload 6, 2), (733, .i2l, 1), (734, .lcmp, 1), (735, .ifCond .eq 5, 3), (738, .iconst 0, 1), (739, .ireturn, 1), (740, .goto 1200, 3), (743, .aload_n 1, 1), (744, .aload_n 0, 1), (745, .iload 4, 2), (747, .iconst 1, 1), (748, .iadd, 1), (749, .iaload, 1), (750, .aload_n 0, 1), (751, .iload 4, 2), (753, .iconst 2, 1)]
def zk_10_24_4 : List (Nat × Instr × Nat) := [(754, .iadd, 1), (755, .iaload, 1), (756, .aload_n 3, 1), (757, .invokestatic 142, 3), (760, .istore 5, 2), (762, .aload_n 2, 1), (763, .aload_n 0, 1), (764, .iload 4, 2), (766, .iconst 1, 1), (767, .iadd, 1), (768, .iaload, 1), (769, .aload_n 0, 1), (770, .iload 4, 2), (772, .iconst 2, 1), (773, .iadd, 1), (774, .iaload, 1), (775, .invokevirtual 144, 3), (778, .istore 6, 2), (780, .aload_n 2, 1), (781, .invokevirtual 115, 3), (784, .iload 5, 2), (786, .if_icmp .eq 5, 3), (789, .iconst 0, 1), (790, .ireturn, 1), (791, .iload 5, 2), (793, .ifCond .ne 15, 3), (796, .aload_n 3, 1), (797, .iconst 0, 1), (798, .laload, 1), (799, .iload 6, 2), (801, .i2l, 1), (802, .lcmp, 1), (803, .ifCond .eq 5, 3), (806, .iconst 0, 1), (807, .ireturn, 1), (808, .goto 1132, 3), (811, .aload_n 1, 1), (812, .aload_n 0, 1), (813, .iload 4, 2), (815, .iconst 1, 1), (816, .iadd, 1), (817, .iaload, 1), (818, .aload_n 3, 1), (819, .invokestatic 145, 3), (822, .istore 5, 2), (824, .aload_n 2, 1), (825, .aload_n 0, 1), (826, .iload 4, 2), (828, .iconst 1, 1), (829, .iadd, 1), (830, .iaload, 1), (831, .invokevirtual 147, 3), (834, .istore 6, 2), (836, .aload_n 2, 1), (837, .invokevirtual 115, 3), (840, .iload 5, 2), (842, .if_icmp .eq 5, 3), (845, .iconst 0, 1), (846, .ireturn, 1), (847, .iload 5, 2), (849, .ifCond .ne 15, 3), (852, .aload_n 3, 1), (853, .iconst 0, 1), (854, .laload, 1), (855, .iload 6, 2), (857, .i2l, 1), (858, .lcmp, 1), (859, .ifCond .eq 5, 3), (862, .iconst 0, 1), (863, .ireturn, 1), (864, .goto 1076, 3), (867, .aload_n 1, 1), (868, .aload_n 0, 1), (869, .iload 4, 2), (871, .iconst 1, 1), (872, .iadd, 1), (873, .iaload, 1), (874, .aload_n 0, 1), (875, .iload 4, 2), (877, .iconst 2, 1), (878, .iadd, 1), (879, .iaload, 1), (880, .aload_n 0, 1), (881, .iload 4, 2), (883, .iconst 3, 1), (884, .iadd, 1), (885, .iaload, 1), (886, .aload_n 3, 1), (887, .invokestatic 148, 3), (890, .istore 5, 2), (892, .aload_n 2, 1), (893, .aload_n 0, 1), (894, .iload 4, 2), (896, .iconst 1, 1), (897, .iadd, 1), (898, .iaload, 1), (899, .aload_n 0, 1), (900, .iload 4, 2), (902, .iconst 2, 1), (903, .iadd, 1)]
def zk_10_24_5 : List (Nat × Instr × Nat) := [(904, .iaload, 1), (905, .aload_n 0, 1), (906, .iload 4, 2), (908, .iconst 3, 1), (909, .iadd, 1), (910, .iaload, 1), (911, .invokevirtual 151, 3), (914, .istore 6, 2), (916, .aload_n 2, 1), (917, .invokevirtual 115, 3), (920, .iload 5, 2), (922, .if_icmp .eq 5, 3), (925, .iconst 0, 1), (926, .ireturn, 1), (927, .iload 5, 2), (929, .ifCond .ne 15, 3), (932, .aload_n 3, 1), (933, .iconst 0, 1), (934, .laload, 1), (935, .iload 6, 2), (937, .i2l, 1), (938, .lcmp, 1), (939, .ifCond .eq 5, 3), (942, .iconst 0, 1), (943, .ireturn, 1), (944, .goto 996, 3), (947, .aload_n 1, 1), (948, .aload_n 0, 1), (949, .iload 4, 2), (951, .iconst 1, 1), (952, .iadd, 1), (953, .iaload, 1), (954, .aload_n 3, 1), (955, .invokestatic 152, 3), (958, .istore 5, 2), (960, .aload_n 2, 1), (961, .aload_n 0, 1), (962, .iload 4, 2), (964, .iconst 1, 1), (965, .iadd, 1), (966, .iaload, 1), (967, .invokevirtual 154, 3), (970, .istore 6, 2), (972, .aload_n 2, 1), (973, .invokevirtual 115, 3), (976, .iload 5, 2), (978, .if_icmp .eq 5, 3), (981, .iconst 0, 1), (982, .ireturn, 1), (983, .iload 5, 2), (985, .ifCond .ne 15, 3), (988, .aload_n 3, 1), (989, .iconst 0, 1), (990, .laload, 1), (991, .iload 6, 2), (993, .i2l, 1), (994, .lcmp, 1), (995, .ifCond .eq 5, 3), (998, .iconst 0, 1), (999, .ireturn, 1), (1000, .goto 940, 3), (1003, .aload_n 1, 1), (1004, .aload_n 0, 1), (1005, .iload 4, 2), (1007, .iconst 1, 1), (1008, .iadd, 1), (1009, .iaload, 1), (1010, .aload_n 3, 1), (1011, .invokestatic 155, 3), (1014, .istore 5, 2), (1016, .aload_n 2, 1), (1017, .aload_n 0, 1), (1018, .iload 4, 2), (1020, .iconst 1, 1), (1021, .iadd, 1), (1022, .iaload, 1), (1023, .invokevirtual 157, 3), (1026, .istore 6, 2), (1028, .aload_n 2, 1), (1029, .invokevirtual 115, 3), (1032, .iload 5, 2), (1034, .if_icmp .eq 5, 3), (1037, .iconst 0, 1), (1038, .ireturn, 1), (1039, .iload 5, 2), (1041, .ifCond .ne 15, 3), (1044, .aload_n 3, 1), (1045, .iconst 0, 1), (1046, .laload, 1), (1047, .iload 6, 2), (1049, .i2l, 1), (1050, .lcmp, 1), (1051, .ifCond .eq 5, 3), (1054, .iconst 0, 1), (1055, .ireturn, 1), (1056, .goto 884, 3), (1059, .aload_n 1, 1), (1060, .aload_n 0, 1), (1061, .iload 4, 2), (1063, .iconst 1, 1)]
def zk_10_24_6 : List (Nat × Instr × Nat) := [(1064, .iadd, 1), (1065, .iaload, 1), (1066, .aload_n 3, 1), (1067, .invokestatic 158, 3), (1070, .istore 5, 2), (1072, .aload_n 2, 1), (1073, .aload_n 0, 1), (1074, .iload 4, 2), (1076, .iconst 1, 1), (1077, .iadd, 1), (1078, .iaload, 1), (1079, .invokevirtual 160, 3), (1082, .istore 6, 2), (1084, .aload_n 2, 1), (1085, .invokevirtual 115, 3), (1088, .iload 5, 2), (1090, .if_icmp .eq 5, 3), (1093, .iconst 0, 1), (1094, .ireturn, 1), (1095, .iload 5, 2), (1097, .ifCond .ne 15, 3), (1100, .aload_n 3, 1), (1101, .iconst 0, 1), (1102, .laload, 1), (1103, .iload 6, 2), (1105, .i2l, 1), (1106, .lcmp, 1), (1107, .ifCond .eq 5, 3), (1110, .iconst 0, 1), (1111, .ireturn, 1), (1112, .goto 828, 3), (1115, .aload_n 1, 1), (1116, .aload_n 0, 1), (1117, .iload 4, 2), (1119, .iconst 1, 1), (1120, .iadd, 1), (1121, .iaload, 1), (1122, .aload_n 0, 1), (1123, .iload 4, 2), (1125, .iconst 2, 1), (1126, .iadd, 1), (1127, .iaload, 1), (1128, .aload_n 3, 1), (1129, .invokestatic 161, 3), (1132, .istore 5, 2), (1134, .aload_n 2, 1), (1135, .aload_n 0, 1), (1136, .iload 4, 2), (1138, .iconst 1, 1), (1139, .iadd, 1), (1140, .iaload, 1), (1141, .aload_n 0, 1), (1142, .iload 4, 2), (1144, .iconst 2, 1), (1145, .iadd, 1), (1146, .iaload, 1), (1147, .invokevirtual 163, 3), (1150, .istore 6, 2), (1152, .aload_n 2, 1), (1153, .invokevirtual 115, 3), (1156, .iload 5, 2), (1158, .if_icmp .eq 5, 3), (1161, .iconst 0, 1), (1162, .ireturn, 1), (1163, .iload 5, 2), (1165, .ifCond .ne 15, 3), (1168, .aload_n 3, 1), (1169, .iconst 0, 1), (1170, .laload, 1), (1171, .iload 6, 2), (1173, .i2l, 1), (1174, .lcmp, 1), (1175, .ifCond .eq 5, 3), (1178, .iconst 0, 1), (1179, .ireturn, 1), (1180, .goto 760, 3), (1183, .aload_n 1, 1), (1184, .aload_n 0, 1), (1185, .iload 4, 2), (1187, .iconst 1, 1), (1188, .iadd, 1), (1189, .iaload, 1), (1190, .aload_n 0, 1), (1191, .iload 4, 2), (1193, .iconst 2, 1), (1194, .iadd, 1), (1195, .iaload, 1), (1196, .aload_n 3, 1), (1197, .invokestatic 164, 3), (1200, .istore 5, 2), (1202, .aload_n 2, 1), (1203, .aload_n 0, 1), (1204, .iload 4, 2), (1206, .iconst 1, 1), (1207, .iadd, 1), (1208, .iaload, 1), (1209, .aload_n 0, 1), (1210, .iload 4, 2), (1212, .iconst 2, 1), (1213, .iadd, 1)]
def zk_10_24_7 : List (Nat × Instr × Nat) := [(1214, .iaload, 1), (1215, .invokevirtual 166, 3), (1218, .istore 6, 2), (1220, .aload_n 2, 1), (1221, .invokevirtual 115, 3), (1224, .iload 5, 2), (1226, .if_icmp .eq 5, 3), (1229, .iconst 0, 1), (1230, .ireturn, 1), (1231, .iload 5, 2), (1233, .ifCond .ne 15, 3), (1236, .aload_n 3, 1), (1237, .iconst 0, 1), (1238, .laload, 1), (1239, .iload 6, 2), (1241, .i2l, 1), (1242, .lcmp, 1), (1243, .ifCond .eq 5, 3), (1246, .iconst 0, 1), (1247, .ireturn, 1), (1248, .goto 692, 3), (1251, .aload_n 1, 1), (1252, .aload_n 0, 1), (1253, .iload 4, 2), (1255, .iconst 1, 1), (1256, .iadd, 1), (1257, .iaload, 1), (1258, .invokevirtual 167, 3), (1261, .aload_n 2, 1), (1262, .aload_n 0, 1), (1263, .iload 4, 2), (1265, .iconst 1, 1), (1266, .iadd, 1), (1267, .iaload, 1), (1268, .invokevirtual 170, 3), (1271, .if_icmp .eq 669, 3), (1274, .iconst 0, 1), (1275, .ireturn, 1), (1276, .aload_n 1, 1), (1277, .aload_n 0, 1), (1278, .iload 4, 2), (1280, .iconst 1, 1), (1281, .iadd, 1), (1282, .iaload, 1), (1283, .aload_n 3, 1), (1284, .invokestatic 171, 3), (1287, .istore 5, 2), (1289, .aload_n 2, 1), (1290, .aload_n 0, 1), (1291, .iload 4, 2), (1293, .iconst 1, 1), (1294, .iadd, 1), (1295, .iaload, 1), (1296, .invokevirtual 173, 3), (1299, .istore 6, 2), (1301, .aload_n 2, 1), (1302, .invokevirtual 115, 3), (1305, .iload 5, 2), (1307, .if_icmp .eq 5, 3), (1310, .iconst 0, 1), (1311, .ireturn, 1), (1312, .iload 5, 2), (1314, .ifCond .ne 15, 3), (1317, .aload_n 3, 1), (1318, .iconst 0, 1), (1319, .laload, 1), (1320, .iload 6, 2), (1322, .i2l, 1), (1323, .lcmp, 1), (1324, .ifCond .eq 5, 3), (1327, .iconst 0, 1), (1328, .ireturn, 1), (1329, .goto 611, 3), (1332, .aload_n 1, 1), (1333, .aload_n 0, 1), (1334, .iload 4, 2), (1336, .iconst 1, 1), (1337, .iadd, 1), (1338, .iaload, 1), (1339, .aload_n 3, 1), (1340, .invokestatic 174, 3), (1343, .istore 5, 2), (1345, .aload_n 2, 1), (1346, .aload_n 0, 1), (1347, .iload 4, 2), (1349, .iconst 1, 1), (1350, .iadd, 1), (1351, .iaload, 1), (1352, .invokevirtual 176, 3), (1355, .istore 6, 2), (1357, .aload_n 2, 1), (1358, .invokevirtual 115, 3), (1361, .iload 5, 2), (1363, .if_icmp .eq 5, 3), (1366, .iconst 0, 1), (1367, .ireturn, 1), (1368, .iload 5, 2), (1370, .ifCond .ne 15, 3), (1373, .aload_n 3, 1), (1374, .iconst 0, 1)]
def zk_10_24_8 : List (Nat × Instr × Nat) := [(1375, .laload, 1), (1376, .iload 6, 2), (1378, .i2l, 1), (1379, .lcmp, 1), (1380, .ifCond .eq 5, 3), (1383, .iconst 0, 1), (1384, .ireturn, 1), (1385, .goto 555, 3), (1388, .aload_n 1, 1), (1389, .invokevirtual 177, 3), (1392, .aload_n 2, 1), (1393, .invokevirtual 180, 3), (1396, .if_icmp .eq 544, 3), (1399, .iconst 0, 1), (1400, .ireturn, 1), (1401, .aload_n 1, 1), (1402, .aload_n 0, 1), (1403, .iload 4, 2), (1405, .iconst 1, 1), (1406, .iadd, 1), (1407, .iaload, 1), (1408, .aload_n 0, 1), (1409, .iload 4, 2), (1411, .iconst 2, 1), (1412, .iadd, 1), (1413, .iaload, 1), (1414, .aload_n 3, 1), (1415, .invokestatic 181, 3), (1418, .istore 5, 2), (1420, .aload_n 2, 1), (1421, .aload_n 0, 1), (1422, .iload 4, 2), (1424, .iconst 1, 1), (1425, .iadd, 1), (1426, .iaload, 1), (1427, .aload_n 0, 1), (1428, .iload 4, 2), (1430, .iconst 2, 1), (1431, .iadd, 1), (1432, .iaload, 1), (1433, .invokevirtual 183, 3), (1436, .istore 6, 2), (1438, .aload_n 2, 1), (1439, .invokevirtual 115, 3), (1442, .iload 5, 2), (1444, .if_icmp .eq 5, 3), (1447, .iconst 0, 1), (1448, .ireturn, 1), (1449, .iload 5, 2), (1451, .ifCond .ne 15, 3), (1454, .aload_n 3, 1), (1455, .iconst 0, 1), (1456, .laload, 1), (1457, .iload 6, 2), (1459, .i2l, 1), (1460, .lcmp, 1), (1461, .ifCond .eq 5, 3), (1464, .iconst 0, 1), (1465, .ireturn, 1), (1466, .goto 474, 3), (1469, .aload_n 1, 1), (1470, .aload_n 0, 1), (1471, .iload 4, 2), (1473, .iconst 1, 1), (1474, .iadd, 1), (1475, .iaload, 1), (1476, .aload_n 0, 1), (1477, .iload 4, 2), (1479, .iconst 2, 1), (1480, .iadd, 1), (1481, .iaload, 1), (1482, .aload_n 3, 1), (1483, .invokestatic 184, 3), (1486, .istore 5, 2), (1488, .aload_n 2, 1), (1489, .aload_n 0, 1), (1490, .iload 4, 2), (1492, .iconst 1, 1), (1493, .iadd, 1), (1494, .iaload, 1), (1495, .aload_n 0, 1), (1496, .iload 4, 2), (1498, .iconst 2, 1), (1499, .iadd, 1), (1500, .iaload, 1), (1501, .invokevirtual 186, 3), (1504, .istore 6, 2), (1506, .aload_n 2, 1), (1507, .invokevirtual 115, 3), (1510, .iload 5, 2), (1512, .if_icmp .eq 5, 3), (1515, .iconst 0, 1), (1516, .ireturn, 1), (1517, .iload 5, 2), (1519, .ifCond .ne 15, 3), (1522, .aload_n 3, 1), (1523, .iconst 0, 1), (1524, .laload, 1), (1525, .iload 6, 2), (1527, .i2l, 1)]
def zk_10_24_9 : List (Nat × Instr × Nat) := [(1528, .lcmp, 1), (1529, .ifCond .eq 5, 3), (1532, .iconst 0, 1), (1533, .ireturn, 1), (1534, .goto 406, 3), (1537, .aload_n 1, 1), (1538, .aload_n 0, 1), (1539, .iload 4, 2), (1541, .iconst 1, 1), (1542, .iadd, 1), (1543, .iaload, 1), (1544, .aload_n 3, 1), (1545, .invokestatic 187, 3), (1548, .istore 5, 2), (1550, .aload_n 2, 1), (1551, .aload_n 0, 1), (1552, .iload 4, 2), (1554, .iconst 1, 1), (1555, .iadd, 1), (1556, .iaload, 1), (1557, .invokevirtual 189, 3), (1560, .istore 6, 2), (1562, .aload_n 2, 1), (1563, .invokevirtual 115, 3), (1566, .iload 5, 2), (1568, .if_icmp .eq 5, 3), (1571, .iconst 0, 1), (1572, .ireturn, 1), (1573, .iload 5, 2), (1575, .ifCond .ne 15, 3), (1578, .aload_n 3, 1), (1579, .iconst 0, 1), (1580, .laload, 1), (1581, .iload 6, 2), (1583, .i2l, 1), (1584, .lcmp, 1), (1585, .ifCond .eq 5, 3), (1588, .iconst 0, 1), (1589, .ireturn, 1), (1590, .goto 350, 3), (1593, .aload_n 1, 1), (1594, .aload_n 0, 1), (1595, .iload 4, 2), (1597, .iconst 1, 1), (1598, .iadd, 1), (1599, .iaload, 1), (1600, .aload_n 3, 1), (1601, .invokestatic 190, 3), (1604, .istore 5, 2), (1606, .aload_n 2, 1), (1607, .aload_n 0, 1), (1608, .iload 4, 2), (1610, .iconst 1, 1), (1611, .iadd, 1), (1612, .iaload, 1), (1613, .invokevirtual 192, 3), (1616, .istore 6, 2), (1618, .aload_n 2, 1), (1619, .invokevirtual 115, 3), (1622, .iload 5, 2), (1624, .if_icmp .eq 5, 3), (1627, .iconst 0, 1), (1628, .ireturn, 1), (1629, .iload 5, 2), (1631, .ifCond .ne 15, 3), (1634, .aload_n 3, 1), (1635, .iconst 0, 1), (1636, .laload, 1), (1637, .iload 6, 2), (1639, .i2l, 1), (1640, .lcmp, 1), (1641, .ifCond .eq 5, 3), (1644, .iconst 0, 1), (1645, .ireturn, 1), (1646, .goto 294, 3), (1649, .aload_n 1, 1), (1650, .aload_n 0, 1), (1651, .iload 4, 2), (1653, .iconst 1, 1), (1654, .iadd, 1), (1655, .iaload, 1), (1656, .invokevirtual 193, 3), (1659, .aload_n 2, 1), (1660, .aload_n 0, 1), (1661, .iload 4, 2), (1663, .iconst 1, 1), (1664, .iadd, 1), (1665, .iaload, 1), (1666, .invokevirtual 196, 3), (1669, .if_icmp .eq 271, 3), (1672, .iconst 0, 1), (1673, .ireturn, 1), (1674, .aload_n 1, 1), (1675, .aload_n 0, 1), (1676, .iload 4, 2), (1678, .iconst 1, 1), (1679, .iadd, 1), (1680, .iaload, 1), (1681, .aload_n 0, 1), (1682, .iload 4, 2)]
def zk_10_24_10 : List (Nat × Instr × Nat) := [(1684, .iconst 2, 1), (1685, .iadd, 1), (1686, .iaload, 1), (1687, .aload_n 3, 1), (1688, .invokestatic 197, 3), (1691, .istore 5, 2), (1693, .aload_n 2, 1), (1694, .aload_n 0, 1), (1695, .iload 4, 2), (1697, .iconst 1, 1), (1698, .iadd, 1), (1699, .iaload, 1), (1700, .aload_n 0, 1), (1701, .iload 4, 2), (1703, .iconst 2, 1), (1704, .iadd, 1), (1705, .iaload, 1), (1706, .invokevirtual 199, 3), (1709, .istore 6, 2), (1711, .aload_n 2, 1), (1712, .invokevirtual 115, 3), (1715, .iload 5, 2), (1717, .if_icmp .eq 5, 3), (1720, .iconst 0, 1), (1721, .ireturn, 1), (1722, .iload 5, 2), (1724, .ifCond .ne 15, 3), (1727, .aload_n 3, 1), (1728, .iconst 0, 1), (1729, .laload, 1), (1730, .iload 6, 2), (1732, .i2l, 1), (1733, .lcmp, 1), (1734, .ifCond .eq 5, 3), (1737, .iconst 0, 1), (1738, .ireturn, 1), (1739, .goto 201, 3), (1742, .aload_n 1, 1), (1743, .aload_n 0, 1), (1744, .iload 4, 2), (1746, .iconst 1, 1), (1747, .iadd, 1), (1748, .iaload, 1), (1749, .aload_n 0, 1), (1750, .iload 4, 2), (1752, .iconst 2, 1), (1753, .iadd, 1), (1754, .iaload, 1), (1755, .aload_n 3, 1), (1756, .invokestatic 200, 3), (1759, .istore 5, 2), (1761, .aload_n 2, 1), (1762, .aload_n 0, 1), (1763, .iload 4, 2), (1765, .iconst 1, 1), (1766, .iadd, 1), (1767, .iaload, 1), (1768, .aload_n 0, 1), (1769, .iload 4, 2), (1771, .iconst 2, 1), (1772, .iadd, 1), (1773, .iaload, 1), (1774, .invokevirtual 202, 3), (1777, .istore 6, 2), (1779, .aload_n 2, 1), (1780, .invokevirtual 115, 3), (1783, .iload 5, 2), (1785, .if_icmp .eq 5, 3), (1788, .iconst 0, 1), (1789, .ireturn, 1), (1790, .iload 5, 2), (1792, .ifCond .ne 15, 3), (1795, .aload_n 3, 1), (1796, .iconst 0, 1), (1797, .laload, 1), (1798, .iload 6, 2), (1800, .i2l, 1), (1801, .lcmp, 1), (1802, .ifCond .eq 5, 3), (1805, .iconst 0, 1), (1806, .ireturn, 1), (1807, .goto 133, 3), (1810, .aload_n 1, 1), (1811, .aload_n 0, 1), (1812, .iload 4, 2), (1814, .iconst 1, 1), (1815, .iadd, 1), (1816, .iaload, 1), (1817, .aload_n 3, 1), (1818, .invokestatic 203, 3), (1821, .istore 5, 2), (1823, .aload_n 2, 1), (1824, .aload_n 0, 1), (1825, .iload 4, 2), (1827, .iconst 1, 1), (1828, .iadd, 1), (1829, .iaload, 1), (1830, .invokevirtual 205, 3), (1833, .istore 6, 2), (1835, .aload_n 2, 1)]
def zk_10_24_11 : List (Nat × Instr × Nat) := [(1836, .invokevirtual 115, 3), (1839, .iload 5, 2), (1841, .if_icmp .eq 5, 3), (1844, .iconst 0, 1), (1845, .ireturn, 1), (1846, .iload 5, 2), (1848, .ifCond .ne 15, 3), (1851, .aload_n 3, 1), (1852, .iconst 0, 1), (1853, .laload, 1), (1854, .iload 6, 2), (1856, .i2l, 1), (1857, .lcmp, 1), (1858, .ifCond .eq 5, 3), (1861, .iconst 0, 1), (1862, .ireturn, 1), (1863, .goto 77, 3), (1866, .aload_n 1, 1), (1867, .aload_n 0, 1), (1868, .iload 4, 2), (1870, .iconst 1, 1), (1871, .iadd, 1), (1872, .iaload, 1), (1873, .invokevirtual 206, 3), (1876, .aload_n 2, 1), (1877, .aload_n 0, 1), (1878, .iload 4, 2), (1880, .iconst 1, 1), (1881, .iadd, 1), (1882, .iaload, 1), (1883, .invokevirtual 209, 3), (1886, .if_icmp .eq 54, 3), (1889, .iconst 0, 1), (1890, .ireturn, 1), (1891, .aload_n 1, 1), (1892, .invokevirtual 210, 3), (1895, .aload_n 2, 1), (1896, .invokevirtual 213, 3), (1899, .goto 41, 3), (1902, .aload_n 1, 1), (1903, .invokevirtual 214, 3), (1906, .aload_n 2, 1), (1907, .invokevirtual 218, 3), (1910, .if_icmp .eq 30, 3), (1913, .iconst 0, 1), (1914, .ireturn, 1), (1915, .aload_n 1, 1), (1916, .aload_n 0, 1), (1917, .iload 4, 2), (1919, .iconst 1, 1), (1920, .iadd, 1), (1921, .iaload, 1), (1922, .invokevirtual 219, 3), (1925, .aload_n 2, 1), (1926, .aload_n 0, 1), (1927, .iload 4, 2), (1929, .iconst 1, 1), (1930, .iadd, 1), (1931, .iaload, 1), (1932, .invokevirtual 222, 3), (1935, .if_icmp .eq 5, 3), (1938, .iconst 0, 1), (1939, .ireturn, 1), (1940, .iinc 4 6, 3), (1943, .goto (-1920), 3), (1946, .iconst 1, 1), (1947, .ireturn, 1)]
def zk_10_24 : List (Nat × Instr × Nat) := zk_10_24_0 ++ (zk_10_24_1 ++ (zk_10_24_2 ++ (zk_10_24_3 ++ (zk_10_24_4 ++ (zk_10_24_5 ++ (zk_10_24_6 ++ (zk_10_24_7 ++ (zk_10_24_8 ++ (zk_10_24_9 ++ (zk_10_24_10 ++ (zk_10_24_11)))))))))))
def zmc_10 : List zMt := [(yL_machine, cL_machine, 3, (some FieldType.int), [(0, 8, 11, 13), (0, 8, 14, 15)], zk_10_0),
  (yL_thread, cL_thread, 5, (some FieldType.int), [(0, 10, 13, 21), (0, 10, 17, 23)], zk_10_1),
  (yL_leftOut, cL_leftOut, 5, (some FieldType.int), [(0, 10, 13, 21)], zk_10_2),
  (yL_blocks, cL_blocks, 5, (some FieldType.int), [(0, 10, 13, 21), (0, 10, 17, 23)], zk_10_3),
  (yL_fell, cL_fell, 5, (some FieldType.int), [(0, 10, 13, 21), (0, 10, 17, 23)], zk_10_4),
  (yL_word, cL_word, 4, (some FieldType.int), [(0, 9, 12, 21)], zk_10_5),
  (yL_sees, cL_sees, 5, (some FieldType.int), [(0, 10, 13, 21)], zk_10_6),
  (yL_lock, cL_lock, 5, (some FieldType.int), [(0, 10, 13, 21), (0, 10, 17, 23)], zk_10_7),
  (yL_term, cL_term, 4, (some FieldType.int), [(0, 9, 12, 23)], zk_10_8),
  (yL_deed, cL_deed, 6, (some FieldType.int), [(0, 12, 15, 21), (0, 12, 19, 23)], zk_10_9),
  (yL_step, cL_step, 4, (some FieldType.int), [(0, 9, 12, 21), (0, 9, 15, 54)], zk_10_10),
  (yL_run, cL_run, 4, (some FieldType.int), [(0, 9, 12, 13)], zk_10_11),
  (yL_chance, cL_chance, 4, (some FieldType.int), [(0, 9, 12, 13)], zk_10_12),
  (yL_poke, cL_poke, 5, (some FieldType.int), [(0, 10, 13, 21), (0, 10, 17, 13)], zk_10_13),
  (yL_tune, cL_tune, 5, (some FieldType.int), [(0, 10, 13, 23), (0, 10, 17, 13)], zk_10_14),
  (yL_due, cL_due, 4, (some FieldType.int), [(0, 9, 12, 21)], zk_10_15),
  (yL_quickest, cL_quickest, 4, (some FieldType.int), [(0, 9, 12, 23)], zk_10_16),
  (yL_touches, cL_touches, 5, (some FieldType.int), [(0, 10, 13, 21), (0, 10, 17, 23)], zk_10_17),
  (yL_rivals, cL_rivals, 5, (some FieldType.int), [(0, 10, 13, 21), (0, 10, 17, 13)], zk_10_18),
  (yL_nest, cL_nest, 4, (some FieldType.int), [(0, 9, 12, 21)], zk_10_19),
  (yL_parts, cL_parts, 4, (some FieldType.int), [(0, 9, 12, 21)], zk_10_20),
  (yL_output, cL_output, 5, (some FieldType.int), [(0, 10, 13, 23)], zk_10_21),
  (yL_log, cL_log, 5, (some FieldType.int), [(0, 10, 13, 23)], zk_10_22),
  (yL_text, cL_text, 4, (some FieldType.int), [(0, 9, 12, 21)], zk_10_23),
  (yL_law, cL_law, 7, (some .boolean), [], zk_10_24)]
def zk_11_0_0 : List (Nat × Instr × Nat) := [(0, .iload_n 0, 1), (1, .iload_n 0, 1), (2, .iconst 1, 1), (3, .iushr, 1), (4, .ldc_w 265, 3), (7, .iand, 1), (8, .isub, 1), (9, .istore_n 0, 1), (10, .iload_n 0, 1), (11, .ldc_w 266, 3), (14, .iand, 1), (15, .iload_n 0, 1), (16, .iconst 2, 1), (17, .iushr, 1), (18, .ldc_w 266, 3), (21, .iand, 1), (22, .iadd, 1), (23, .istore_n 0, 1), (24, .iload_n 0, 1), (25, .iload_n 0, 1), (26, .iconst 4, 1), (27, .iushr, 1), (28, .iadd, 1), (29, .ldc_w 267, 3), (32, .iand, 1), (33, .istore_n 0, 1), (34, .iload_n 0, 1), (35, .iload_n 0, 1), (36, .bipush 8, 2), (38, .iushr, 1), (39, .iadd, 1), (40, .istore_n 0, 1), (41, .iload_n 0, 1), (42, .iload_n 0, 1), (43, .bipush 16, 2), (45, .iushr, 1), (46, .iadd, 1), (47, .istore_n 0, 1), (48, .iload_n 0, 1), (49, .bipush 63, 2), (51, .iand, 1), (52, .ireturn, 1)]
def zk_11_0 : List (Nat × Instr × Nat) := zk_11_0_0
def zmc_11 : List zMt := [(yJ6_bitCount_0f7a4, cJ6_bitCount_0f7a4, 1, (some FieldType.int), [], zk_11_0)]
def zk_12_0_0 : List (Nat × Instr × Nat) := [(0, .iload_n 0, 1), (1, .iload_n 1, 1), (2, .irem, 1), (3, .istore_n 2, 1), (4, .iload_n 0, 1), (5, .iload_n 1, 1), (6, .ixor, 1), (7, .ifCond .ge 11, 3), (10, .iload_n 2, 1), (11, .ifCond .eq 7, 3), (14, .iload_n 2, 1), (15, .iload_n 1, 1), (16, .iadd, 1), (17, .ireturn, 1), (18, .iload_n 2, 1), (19, .ireturn, 1)]
def zk_12_0 : List (Nat × Instr × Nat) := zk_12_0_0
def zk_12_1_0 : List (Nat × Instr × Nat) := [(0, .iload_n 0, 1), (1, .iload_n 1, 1), (2, .if_icmp .lt 7, 3), (5, .iload_n 0, 1), (6, .goto 4, 3), (9, .iload_n 1, 1), (10, .ireturn, 1)]
def zk_12_1 : List (Nat × Instr × Nat) := zk_12_1_0
def zk_12_2_0 : List (Nat × Instr × Nat) := [(0, .iload_n 0, 1), (1, .iload_n 1, 1), (2, .if_icmp .gt 7, 3), (5, .iload_n 0, 1), (6, .goto 4, 3), (9, .iload_n 1, 1), (10, .ireturn, 1)]
def zk_12_2 : List (Nat × Instr × Nat) := zk_12_2_0
def zmc_12 : List zMt := [(yJ9_floorMod_7cf53, cJ9_floorMod_7cf53, 3, (some FieldType.int), [], zk_12_0),
  (yJ9_max_7cf53, cJ9_max_7cf53, 2, (some FieldType.int), [], zk_12_1),
  (yJ9_min_7cf53, cJ9_min_7cf53, 2, (some FieldType.int), [], zk_12_2)]
def zmc : Nat → List zMt := fun c => match c with
  | 0 => zmc_0
  | 1 => zmc_1
  | 2 => zmc_2
  | 3 => zmc_3
  | 4 => zmc_4
  | 5 => zmc_5
  | 6 => zmc_6
  | 7 => zmc_7
  | 8 => zmc_8
  | 9 => zmc_9
  | 10 => zmc_10
  | 11 => zmc_11
  | 12 => zmc_12
  | _ => []
def zent (j : Nat) : Option zMt := (zmc (j / 200))[j % 200]?
def zfe (j pc : Nat) : Option (Instr × Nat) := match zent j with
  | some q => q.2.2.2.2.2.lookup pc
  | none => none
def zfp : Nat → List (Nat × Nat × Nat × Nat) := fun c => match c with
  | 0 => [(18, 0, 0, 191), (22, 0, 1, 194), (26, 0, 2, 196), (29, 0, 3, 198), (9, 0, 4, 200), (38, 0, 5, 203), (41, 0, 6, 206), (44, 0, 7, 209), (15, 0, 8, 212), (47, 0, 9, 214)]
  | 1 => [(9, 1, 0, 153), (15, 1, 1, 158), (18, 1, 2, 162), (21, 1, 3, 165)]
  | 2 => [(9, 2, 0, 291), (21, 2, 1, 292), (25, 2, 2, 294)]
  | 3 => [(187, 1, 0, 157), (193, 1, 1, 161), (209, 1, 2, 164), (237, 1, 3, 167), (95, 0, 0, 192), (262, 0, 1, 195), (265, 0, 2, 197), (249, 0, 3, 199), (271, 0, 4, 202), (221, 0, 5, 205), (206, 0, 6, 208), (259, 0, 7, 211), (105, 0, 8, 213), (277, 6, 2, 242), (133, 6, 3, 245), (155, 6, 4, 248), (190, 6, 5, 251), (234, 6, 6, 254), (173, 6, 7, 257), (268, 6, 8, 260), (91, 6, 9, 262), (9, 3, 0, 302), (15, 3, 1, 306), (18, 3, 2, 309), (26, 3, 3, 312), (33, 3, 4, 313), (67, 3, 5, 314), (73, 3, 6, 318), (76, 3, 7, 320), (37, 3, 8, 322), (41, 3, 9, 324), (44, 3, 10, 326), (47, 3, 11, 329), (79, 3, 12, 332), (53, 3, 13, 335)]
  | 4 => [(104, 1, 0, 154), (80, 6, 2, 240), (120, 3, 0, 304), (64, 3, 1, 307), (42, 3, 5, 316), (114, 3, 10, 327), (117, 3, 11, 330), (113, 3, 12, 333), (27, 4, 0, 408), (9, 4, 1, 409), (15, 4, 2, 410), (18, 4, 3, 411), (21, 4, 4, 412), (24, 4, 5, 413), (61, 4, 6, 414), (38, 4, 7, 415), (31, 4, 8, 416), (35, 4, 9, 418)]
  | 5 => [(106, 1, 0, 155), (90, 1, 1, 159), (95, 3, 0, 303), (98, 3, 1, 308), (58, 3, 2, 310), (74, 3, 5, 315), (9, 5, 0, 372), (15, 5, 1, 373), (25, 5, 2, 374), (29, 5, 3, 375), (35, 5, 4, 376)]
  | 6 => [(9, 6, 0, 236), (15, 6, 1, 237), (34, 6, 2, 239), (38, 6, 3, 243), (41, 6, 4, 246), (44, 6, 5, 249), (47, 6, 6, 252), (50, 6, 7, 255), (18, 6, 8, 258), (24, 6, 9, 261)]
  | 7 => [(25, 6, 2, 238), (9, 7, 0, 395), (15, 7, 1, 396)]
  | 8 => [(179, 1, 0, 156), (184, 1, 1, 160), (187, 1, 2, 163), (193, 1, 3, 166), (103, 0, 0, 193), (136, 0, 4, 201), (122, 0, 5, 204), (143, 0, 6, 207), (146, 0, 7, 210), (125, 6, 2, 241), (91, 6, 3, 244), (96, 6, 4, 247), (113, 6, 5, 250), (116, 6, 6, 253), (128, 6, 7, 256), (157, 6, 8, 259), (99, 6, 9, 263), (320, 2, 1, 293), (160, 3, 0, 305), (198, 3, 2, 311), (151, 3, 5, 317), (76, 3, 6, 319), (207, 3, 7, 321), (323, 3, 8, 323), (248, 3, 9, 325), (280, 3, 10, 328), (283, 3, 11, 331), (277, 3, 12, 334), (288, 3, 13, 336), (268, 4, 8, 417), (12, 8, 0, 440), (16, 8, 1, 441), (19, 8, 2, 442), (305, 8, 3, 443), (22, 8, 4, 444), (55, 8, 5, 445), (26, 8, 6, 446), (35, 8, 7, 447), (42, 8, 8, 448), (51, 8, 9, 449)]
  | 9 => [(3, 9, 0, 1301), (13, 9, 1, 1302), (17, 9, 2, 1303), (20, 9, 3, 1304), (46, 9, 4, 1305), (74, 9, 5, 1306), (23, 9, 6, 1307), (163, 9, 7, 1308), (166, 9, 8, 1309), (169, 9, 9, 1310), (175, 9, 10, 1311), (27, 9, 11, 1312), (30, 9, 12, 1313), (33, 9, 13, 1314), (36, 9, 14, 1315), (39, 9, 15, 1316), (362, 9, 16, 1317)]
  | _ => []
def zmp : Nat → List (Nat × Nat × Nat × Nat) := fun c => match c with
  | 0 => [(3, 4, 0, 190), (32, 5, 0, 519)]
  | 1 => [(3, 4, 0, 152)]
  | 2 => [(3, 4, 0, 290), (15, 5, 0, 524), (28, 1, 2400, 1259)]
  | 3 => [(3, 4, 0, 145), (23, 2, 200, 149), (32, 3, 1200, 181), (52, 3, 400, 287), (57, 5, 0, 503), (63, 0, 201, 506), (70, 0, 1201, 510), (82, 0, 401, 520), (112, 0, 608, 529), (108, 0, 602, 533), (116, 0, 1206, 537), (136, 0, 1205, 547), (139, 0, 1204, 551), (142, 0, 614, 555), (183, 0, 603, 559), (158, 0, 620, 563), (203, 0, 604, 567), (85, 1, 2401, 571), (238, 0, 606, 574), (241, 0, 621, 578), (123, 1, 2200, 582), (176, 0, 624, 588), (274, 0, 203, 592), (231, 0, 3, 596), (179, 0, 402, 600), (245, 0, 622, 604), (252, 0, 623, 608), (256, 0, 7, 612), (215, 0, 4, 616), (218, 0, 605, 620), (101, 0, 8, 624), (200, 0, 5, 628), (146, 0, 613, 632), (196, 0, 2, 636), (212, 0, 202, 640), (149, 0, 615, 644), (224, 0, 6, 648), (227, 0, 616, 652), (152, 0, 617, 656), (162, 0, 618, 660), (166, 0, 619, 664), (170, 0, 612, 668), (120, 0, 627, 1154), (129, 0, 610, 1155)]
  | 4 => [(3, 4, 0, 407), (47, 0, 602, 680), (51, 0, 1211, 681), (57, 0, 607, 695), (67, 5, 0, 696), (73, 0, 804, 697), (76, 0, 808, 701), (83, 0, 805, 705), (86, 0, 1210, 709), (90, 0, 1204, 710), (93, 0, 1205, 711), (96, 0, 806, 712), (100, 0, 603, 716), (109, 0, 807, 717)]
  | 5 => [(3, 4, 0, 371), (19, 1, 2402, 778), (32, 0, 1009, 781), (38, 0, 1002, 785), (48, 0, 1011, 790), (134, 6, 0, 794), (139, 7, 0, 804), (52, 0, 1004, 842), (83, 0, 1012, 846), (86, 0, 603, 850), (55, 0, 1005, 851), (64, 0, 1006, 855), (102, 0, 631, 860), (67, 0, 1003, 864), (71, 0, 1007, 872), (109, 0, 602, 876), (113, 0, 1202, 877), (118, 0, 1008, 882), (130, 0, 1203, 891), (42, 0, 1010, 895)]
  | 6 => [(3, 4, 0, 184), (23, 3, 0, 187), (28, 5, 0, 514), (53, 0, 1, 515), (81, 0, 1210, 685), (64, 0, 1204, 689), (67, 0, 1208, 690), (60, 0, 1205, 694), (57, 0, 3, 881), (71, 1, 2200, 1230), (76, 1, 2401, 1231)]
  | 7 => [(3, 4, 0, 394), (21, 0, 1404, 1274), (46, 6, 0, 1278), (51, 7, 0, 1279), (30, 0, 1403, 1280), (36, 0, 1204, 1285), (40, 0, 1205, 1286), (43, 0, 1405, 1287)]
  | 8 => [(3, 4, 0, 137), (11, 3, 600, 142), (32, 2, 1000, 368), (41, 3, 1400, 391), (48, 2, 800, 404), (58, 0, 1602, 475), (251, 0, 1625, 495), (62, 0, 601, 499), (254, 0, 607, 525), (229, 0, 608, 541), (216, 0, 611, 543), (271, 0, 803, 676), (274, 0, 802, 721), (302, 0, 1402, 729), (84, 0, 801, 741), (308, 0, 627, 749), (311, 0, 628, 753), (314, 0, 630, 757), (317, 0, 629, 761), (65, 0, 1001, 774), (87, 0, 1638, 993), (154, 0, 602, 1013), (109, 0, 1206, 1014), (118, 0, 1207, 1015), (140, 1, 1640, 1049), (163, 1, 1639, 1068), (166, 0, 605, 1079), (175, 0, 603, 1088), (190, 0, 626, 1089), (201, 0, 1204, 1109), (204, 0, 1205, 1110), (219, 1, 1641, 1142), (222, 0, 1618, 1146), (226, 0, 609, 1150), (234, 0, 620, 1175), (257, 0, 625, 1207), (262, 0, 1209, 1226), (265, 0, 1211, 1239), (292, 0, 403, 1255), (298, 0, 1401, 1269)]
  | 9 => [(7, 4, 0, 1300), (42, 1, 1806, 1357), (282, 0, 1861, 1380), (178, 0, 1845, 1384), (172, 0, 1844, 1388), (213, 0, 1846, 1392), (279, 0, 1860, 1396), (195, 0, 1847, 1401), (181, 6, 0, 1405), (186, 7, 0, 1406), (245, 0, 1853, 1407), (77, 0, 1809, 1411), (50, 1, 1810, 1415), (222, 0, 1852, 1418), (216, 0, 1851, 1422), (54, 0, 1811, 1434), (219, 0, 1850, 1438), (190, 0, 1849, 1442), (225, 0, 1848, 1446), (251, 0, 1854, 1451), (256, 0, 1855, 1456), (261, 0, 1856, 1462), (270, 0, 1859, 1469), (273, 1, 1857, 1480), (276, 1, 1858, 1483), (285, 0, 1801, 1486), (292, 0, 1863, 1494), (289, 1, 1802, 1498), (153, 0, 1812, 1501), (296, 0, 1835, 1506), (146, 0, 1813, 1510), (150, 0, 1834, 1514), (133, 0, 1829, 1518), (111, 0, 1823, 1522), (91, 0, 1814, 1526), (95, 0, 1819, 1530), (99, 0, 1821, 1534), (85, 0, 1820, 1538), (81, 1, 1803, 1542), (88, 0, 1818, 1545), (70, 0, 1817, 1549), (57, 1, 2401, 1553), (62, 0, 1816, 1554), (66, 0, 1815, 1558), (114, 0, 1822, 1562), (117, 0, 1825, 1566), (120, 0, 1824, 1570), (102, 1, 1804, 1574), (105, 0, 1826, 1577), (124, 0, 1827, 1581), (127, 0, 1828, 1585), (108, 1, 2402, 1589), (136, 0, 1831, 1590), (130, 0, 1830, 1594), (139, 0, 1832, 1598), (142, 0, 1833, 1602), (308, 0, 1865, 1610), (299, 0, 1837, 1614), (156, 0, 1836, 1618), (302, 0, 1840, 1622), (160, 0, 1839, 1626), (305, 0, 1838, 1631), (312, 0, 1871, 1655), (315, 0, 1876, 1675), (318, 0, 1879, 1687), (321, 0, 1885, 1711), (324, 0, 1886, 1715), (327, 0, 1887, 1719), (330, 0, 1889, 1727), (333, 0, 1891, 1735), (336, 0, 1894, 1747), (340, 0, 1897, 1759), (346, 0, 1900, 1767), (343, 0, 1899, 1771), (359, 0, 1905, 1779), (352, 0, 1904, 1783), (355, 0, 1902, 1787), (349, 0, 1903, 1791), (370, 0, 1907, 1800), (390, 0, 1909, 1805), (365, 0, 1908, 1816)]
  | 10 => [(95, 2, 1600, 134), (99, 0, 1601, 471), (104, 0, 1603, 479), (118, 0, 1605, 483), (167, 0, 1621, 487), (177, 0, 1624, 491), (193, 0, 1630, 672), (206, 0, 1634, 725), (210, 0, 1635, 733), (214, 0, 1636, 737), (219, 0, 1637, 745), (109, 1, 2000, 765), (7, 0, 1604, 770), (122, 1, 2001, 984), (17, 0, 1606, 989), (126, 1, 2002, 1035), (25, 0, 1607, 1038), (129, 1, 2003, 1042), (28, 0, 1608, 1045), (132, 1, 2004, 1053), (31, 0, 1609, 1056), (135, 1, 2005, 1061), (34, 0, 1610, 1064), (139, 1, 2006, 1072), (38, 0, 1611, 1075), (142, 1, 2007, 1080), (41, 0, 1612, 1083), (145, 1, 2008, 1094), (44, 0, 1613, 1097), (148, 1, 2009, 1102), (47, 0, 1614, 1105), (152, 1, 2010, 1111), (51, 0, 1615, 1115), (155, 1, 2011, 1135), (56, 0, 1616, 1138), (158, 1, 2012, 1160), (59, 0, 1617, 1163), (161, 1, 2013, 1167), (62, 0, 1619, 1170), (164, 1, 2014, 1176), (65, 0, 1620, 1179), (171, 1, 2015, 1186), (68, 0, 1622, 1189), (174, 1, 2016, 1193), (71, 0, 1623, 1196), (181, 1, 2017, 1200), (74, 0, 1626, 1203), (184, 1, 2018, 1211), (77, 0, 1627, 1214), (187, 1, 2019, 1219), (80, 0, 1628, 1222), (190, 1, 2020, 1232), (83, 0, 1629, 1235), (197, 1, 2021, 1240), (86, 0, 1631, 1243), (200, 1, 2022, 1247), (89, 0, 1632, 1250), (203, 1, 2023, 1262), (92, 0, 1633, 1265), (115, 0, 1800, 1291), (98, 2, 1805, 1297), (213, 0, 1807, 1353), (218, 0, 1808, 1360), (103, 0, 1841, 1364), (108, 0, 1842, 1368), (121, 0, 1843, 1372), (114, 0, 1862, 1376), (154, 0, 1864, 1490), (157, 0, 1866, 1606), (160, 0, 1867, 1635), (163, 0, 1868, 1639), (166, 0, 1869, 1643), (170, 0, 1870, 1647), (125, 0, 1872, 1651), (128, 0, 1873, 1659), (131, 0, 1874, 1663), (134, 0, 1875, 1667), (138, 0, 1877, 1671), (141, 0, 1878, 1679), (144, 0, 1880, 1683), (147, 0, 1881, 1691), (151, 0, 1882, 1695), (199, 0, 1883, 1699), (202, 0, 1884, 1703), (222, 0, 1888, 1707), (173, 0, 1890, 1723), (176, 0, 1892, 1731), (180, 0, 1893, 1739), (183, 0, 1895, 1743), (186, 0, 1896, 1751), (189, 0, 1898, 1755), (192, 0, 1901, 1763), (196, 0, 1906, 1775), (205, 0, 1910, 1795), (209, 0, 1911, 1820)]
  | _ => []
def zcp : Nat → List (Nat × Nat × Nat) := fun c => match c with
  | 3 => [(21, 1, 146), (30, 6, 178), (50, 2, 285)]
  | 6 => [(21, 0, 185)]
  | 8 => [(9, 3, 140), (30, 5, 366), (39, 7, 389), (46, 4, 402)]
  | 10 => [(8, 8, 132), (96, 9, 1295)]
  | _ => []
def zip_ : Nat → List (Nat × Int32 × Nat) := fun c => match c with
  | 3 => [(132, 1103515245, 1159)]
  | 8 => [(210, 99999, 542)]
  | 9 => [(295, 99999, 1505), (159, 1103515245, 1630)]
  | 11 => [(265, 1431655765, 585), (266, 858993459, 586), (267, 252645135, 587)]
  | _ => []
def zgp : Nat → List (Nat × Nat × Nat × Nat) := fun c => match c with
  | 5 => [(77, 1, 868, 1), (80, 2, 870, 1), (124, 3, 887, 1), (127, 4, 889, 1)]
  | 8 => [(240, 1, 1184, 0), (243, 2, 1185, 0)]
  | _ => []
/-- where the words of a method stand: its code, static or instance, selects, its class initialised -/
def zpl : Nat → List (Nat × Nat × Nat × Nat) := fun c => match c with
  | 0 => [(189, 188, 0, 111), (518, 516, 517, 111), (639, 637, 638, 111), (599, 597, 598, 111), (619, 617, 618, 111), (631, 629, 630, 111), (651, 649, 650, 111), (615, 613, 614, 111), (627, 625, 626, 111)]
  | 1 => [(151, 150, 0, 109), (509, 507, 508, 109), (643, 641, 642, 109), (595, 593, 594, 109)]
  | 2 => [(289, 288, 0, 112), (523, 521, 522, 112), (603, 601, 602, 112), (1258, 1256, 1257, 112)]
  | 3 => [(144, 143, 0, 108), (502, 500, 501, 108), (536, 534, 535, 108), (562, 560, 561, 108), (570, 568, 569, 108), (623, 621, 622, 108), (577, 575, 576, 108), (528, 526, 527, 108), (532, 530, 531, 108), (1153, 1151, 1152, 108), (1158, 1157, 33, 108), (546, 544, 545, 108), (671, 670, 13, 108), (635, 634, 7, 108), (558, 557, 2, 108), (647, 646, 8, 108), (655, 654, 9, 108), (659, 658, 10, 108), (663, 662, 11, 108), (667, 666, 12, 108), (566, 564, 565, 108), (581, 580, 3, 108), (607, 606, 5, 108), (611, 610, 6, 108), (591, 590, 4, 108), (1210, 1208, 1209, 108), (1092, 1090, 1091, 108), (752, 750, 751, 108), (756, 754, 755, 108), (764, 762, 763, 108), (760, 758, 759, 108), (863, 861, 862, 108)]
  | 4 => [(406, 405, 0, 115), (744, 742, 743, 115), (724, 722, 723, 115), (679, 677, 678, 115), (700, 699, 14, 115), (708, 707, 16, 115), (715, 714, 17, 115), (720, 719, 18, 115), (704, 703, 15, 115)]
  | 5 => [(370, 369, 0, 113), (777, 775, 776, 113), (788, 787, 20, 113), (867, 866, 26, 113), (845, 844, 22, 113), (854, 853, 24, 113), (858, 857, 25, 113), (875, 874, 27, 113), (885, 884, 28, 113), (784, 783, 19, 113), (898, 897, 29, 113), (793, 792, 21, 113), (849, 848, 23, 113)]
  | 6 => [(183, 182, 0, 110), (513, 511, 512, 110), (880, 878, 879, 110), (894, 892, 893, 110), (554, 552, 553, 110), (550, 548, 549, 110), (540, 538, 539, 110), (1018, 1016, 1017, 110), (693, 691, 692, 110), (1229, 1227, 1228, 110), (688, 686, 687, 110), (684, 682, 683, 110)]
  | 7 => [(393, 392, 0, 114), (1272, 1270, 1271, 114), (732, 730, 731, 114), (1283, 1282, 35, 114), (1277, 1276, 34, 114), (1290, 1289, 36, 114)]
  | 8 => [(136, 135, 0, 107), (474, 472, 473, 107), (478, 477, 0, 107), (482, 480, 481, 107), (773, 771, 772, 107), (486, 484, 485, 107), (992, 990, 991, 107), (1041, 1039, 1040, 107), (1048, 1046, 1047, 107), (1059, 1057, 1058, 107), (1067, 1065, 1066, 107), (1078, 1076, 1077, 107), (1086, 1084, 1085, 107), (1100, 1098, 1099, 107), (1108, 1106, 1107, 107), (1118, 1116, 1117, 107), (1141, 1139, 1140, 107), (1166, 1164, 1165, 107), (1149, 1148, 32, 107), (1173, 1171, 1172, 107), (1182, 1180, 1181, 107), (490, 488, 489, 107), (1192, 1190, 1191, 107), (1199, 1197, 1198, 107), (494, 492, 493, 107), (498, 497, 1, 107), (1206, 1204, 1205, 107), (1217, 1215, 1216, 107), (1225, 1223, 1224, 107), (1238, 1236, 1237, 107), (675, 673, 674, 107), (1246, 1244, 1245, 107), (1253, 1251, 1252, 107), (1268, 1266, 1267, 107), (728, 726, 727, 107), (736, 734, 735, 107), (740, 738, 739, 107), (748, 746, 747, 107), (996, 995, 31, 107), (1070, 1069, 0, 107), (1051, 1050, 0, 107), (1144, 1143, 0, 107)]
  | 9 => [(1294, 1292, 1293, 116), (1489, 1488, 55, 116), (1500, 1499, 0, 116), (1544, 1543, 0, 116), (1576, 1575, 0, 116), (1299, 1298, 0, 116), (1359, 1358, 0, 116), (1356, 1354, 1355, 116), (1363, 1361, 1362, 116), (1414, 1413, 44, 116), (1417, 1416, 0, 116), (1437, 1436, 47, 116), (1504, 1503, 57, 116), (1513, 1512, 59, 116), (1529, 1528, 63, 116), (1561, 1560, 70, 116), (1557, 1556, 69, 116), (1552, 1551, 68, 116), (1548, 1547, 67, 116), (1533, 1532, 64, 116), (1541, 1540, 66, 116), (1537, 1536, 65, 116), (1565, 1564, 71, 116), (1525, 1524, 62, 116), (1573, 1572, 73, 116), (1569, 1568, 72, 116), (1580, 1579, 74, 116), (1584, 1583, 75, 116), (1588, 1587, 76, 116), (1521, 1520, 61, 116), (1597, 1596, 78, 116), (1593, 1592, 77, 116), (1601, 1600, 79, 116), (1605, 1604, 80, 116), (1517, 1516, 60, 116), (1509, 1508, 58, 116), (1621, 1620, 83, 116), (1617, 1616, 82, 116), (1634, 1633, 86, 116), (1629, 1628, 85, 116), (1625, 1624, 84, 116), (1367, 1365, 1366, 116), (1371, 1369, 1370, 116), (1375, 1373, 1374, 116), (1391, 1390, 39, 116), (1387, 1386, 38, 116), (1395, 1394, 40, 116), (1404, 1403, 42, 116), (1449, 1448, 50, 116), (1445, 1444, 49, 116), (1441, 1440, 48, 116), (1425, 1424, 46, 116), (1421, 1420, 45, 116), (1410, 1409, 43, 116), (1454, 1453, 51, 116), (1459, 1458, 52, 116), (1465, 1464, 53, 116), (1482, 1481, 0, 116), (1485, 1484, 0, 116), (1472, 1471, 54, 116), (1399, 1398, 41, 116), (1383, 1382, 37, 116), (1379, 1377, 1378, 116), (1497, 1496, 56, 116), (1493, 1491, 1492, 116), (1613, 1612, 81, 116), (1609, 1607, 1608, 116), (1638, 1636, 1637, 116), (1642, 1640, 1641, 116), (1646, 1644, 1645, 116), (1650, 1648, 1649, 116), (1658, 1657, 87, 116), (1654, 1652, 1653, 116), (1662, 1660, 1661, 116), (1666, 1664, 1665, 116), (1670, 1668, 1669, 116), (1678, 1677, 88, 116), (1674, 1672, 1673, 116), (1682, 1680, 1681, 116), (1690, 1689, 89, 116), (1686, 1684, 1685, 116), (1694, 1692, 1693, 116), (1698, 1696, 1697, 116), (1702, 1700, 1701, 116), (1706, 1704, 1705, 116), (1714, 1713, 90, 116), (1718, 1717, 91, 116), (1722, 1721, 92, 116), (1710, 1708, 1709, 116), (1730, 1729, 93, 116), (1726, 1724, 1725, 116), (1738, 1737, 94, 116), (1734, 1732, 1733, 116), (1742, 1740, 1741, 116), (1750, 1749, 95, 116), (1746, 1744, 1745, 116), (1754, 1752, 1753, 116), (1762, 1761, 96, 116), (1758, 1756, 1757, 116), (1774, 1773, 98, 116), (1770, 1769, 97, 116), (1766, 1764, 1765, 116), (1790, 1789, 101, 116), (1794, 1793, 102, 116), (1786, 1785, 100, 116), (1782, 1781, 99, 116), (1778, 1776, 1777, 116), (1803, 1802, 103, 116), (1819, 1818, 105, 116), (1808, 1807, 104, 116), (1798, 1796, 1797, 116), (1823, 1821, 1822, 116)]
  | 10 => [(767, 766, 0, 106), (986, 985, 0, 106), (1037, 1036, 0, 106), (1044, 1043, 0, 106), (1055, 1054, 0, 106), (1063, 1062, 0, 106), (1074, 1073, 0, 106), (1082, 1081, 0, 106), (1096, 1095, 0, 106), (1104, 1103, 0, 106), (1113, 1112, 0, 106), (1137, 1136, 0, 106), (1162, 1161, 0, 106), (1169, 1168, 0, 106), (1178, 1177, 0, 106), (1188, 1187, 0, 106), (1195, 1194, 0, 106), (1202, 1201, 0, 106), (1213, 1212, 0, 106), (1221, 1220, 0, 106), (1234, 1233, 0, 106), (1242, 1241, 0, 106), (1249, 1248, 0, 106), (1264, 1263, 0, 106), (0, 0, 0, 0)]
  | 11 => [(584, 583, 0, 131)]
  | 12 => [(1261, 1260, 0, 118), (573, 572, 0, 118), (780, 779, 0, 118)]
  | _ => []
/-- where an exception of the class is thrown: method, pc, which, pool places of class, text and constructor, whether the text is by a wide index, number of the text -/
def zth : List (Nat × Nat × Nat × Nat × Nat × Nat × Nat × Nat) := [(1604, 39, 2, 69, 71, 73, 0, 0), (1604, 61, 3, 79, 81, 83, 0, 1), (1606, 132, 1, 131, 133, 135, 0, 2), (1609, 20, 1, 131, 149, 135, 0, 3), (1612, 9, 0, 170, 172, 174, 0, 4), (1612, 113, 1, 131, 194, 135, 0, 5), (1613, 10, 1, 131, 196, 135, 0, 6), (1615, 25, 4, 211, 213, 215, 0, 7), (1619, 24, 2, 69, 232, 73, 0, 8), (1620, 11, 1, 131, 238, 135, 0, 9), (1620, 39, 2, 69, 246, 73, 0, 10), (1627, 18, 2, 69, 260, 73, 1, 11), (1632, 9, 1, 131, 286, 135, 1, 12), (1638, 15, 0, 170, 326, 174, 1, 13), (1639, 10, 0, 170, 328, 174, 1, 14), (1640, 9, 1, 131, 330, 135, 1, 15), (1641, 11, 2, 69, 246, 73, 0, 10)]
def zstr : List (Nat × Nat × String × Nat) := [(8, 71, "the text is wrong", 942), (8, 81, "there are 12 texts", 977), (8, 133, "a THREAD has no such what", 1028), (8, 149, "there is no such why", 1060), (8, 172, "there is no such LOCK", 1087), (8, 194, "a LOCK has no such what", 1093), (8, 196, "there is no such TERM", 1101), (8, 213, "there is no STEP any more", 1128), (8, 232, "the value is none", 1174), (8, 238, "there is no such TERM to tell", 1183), (8, 246, "n is none", 1145), (8, 260, "both are one", 1218), (8, 286, "a row of THE LOG has no such what", 1254), (8, 326, "there is no such THREAD", 1006), (8, 328, "there is no such WORD", 1071), (8, 330, "what is 0 or 1 here", 1052)]
def zex : Nat → String := fun e => match e with
  | 0 => "java/lang/IndexOutOfBoundsException"
  | 1 => "java/util/NoSuchElementException"
  | 2 => "java/lang/IllegalArgumentException"
  | 3 => "java/lang/UnsupportedOperationException"
  | _ => "java/lang/IllegalStateException"
end
section
/-! A small machine over the tables: one step, and a run. Values bear numbers of objects in the place of addresses: below 1000 the objects made, from 1000 on rows that stand from the start. -/
abbrev zLv : Type := List (Option Value)
abbrev zMem : Type := List (Nat × Nat × List Nat) × (Nat → Nat → Int32) × (Nat → Nat → Int64) × Bool × Nat × Nat
def zlen (i : Instr) : Nat := match i with
  | .iload _ | .aload _ | .istore _ | .astore _ | .bipush _ | .ldc _ | .newarray _ => 2
  | .sipush _ | .iinc _ _ | .goto _ | .if_icmp _ _ | .ifCond _ _ | .getfield _ | .putfield _ | .invokevirtual _ | .invokestatic _ | .invokespecial _ | .new _ | .getstatic _ | .anewarray _ | .ldc_w _ => 3
  | _ => 1
def zsw (i : Instr) : Bool := match i with
  | .tableswitch _ _ _ _ | .lookupswitch _ _ => true
  | _ => false
def zkall (cc : ByteArray) (l : List (Nat × Instr × Nat)) : Bool := l.all (fun e => decide (decode cc e.1 = .ok (e.2.1, e.2.2)) && (zsw e.2.1 || zlen e.2.1 == e.2.2))
theorem zkall_app {cc : ByteArray} {a b : List (Nat × Instr × Nat)} (ha : zkall cc a = true) (hb : zkall cc b = true) : zkall cc (a ++ b) = true := by
  unfold zkall at *
  rw [List.all_append, ha, hb]; rfl
def ztg (pc : Nat) (off : Int) : Option Nat := if 0 ≤ (pc : Int) + off then some ((pc : Int) + off).toNat else none
def zgo (pc : Nat) (off : Int) (lv : zLv) (st : List Value) : Option (Nat × zLv × List Value) := (ztg pc off).map (fun t => (t, lv, st))
def zldI (lv : zLv) (k pc : Nat) (st : List Value) : Option (Nat × zLv × List Value) := match lv[k]? with
  | some (some (.int x)) => some (pc, lv, .int x :: st)
  | _ => none
def zldA (lv : zLv) (k pc : Nat) (st : List Value) : Option (Nat × zLv × List Value) := match lv[k]? with
  | some (some (.ref x)) => some (pc, lv, .ref x :: st)
  | _ => none
def zstI (lv : zLv) (k pc : Nat) (st : List Value) : Option (Nat × zLv × List Value) := match st with
  | .int x :: r => if k < lv.length then some (pc, lv.set k (some (.int x)), r) else none
  | _ => none
def zstA (lv : zLv) (k pc : Nat) (st : List Value) : Option (Nat × zLv × List Value) := match st with
  | .ref x :: r => if k < lv.length then some (pc, lv.set k (some (.ref x)), r) else none
  | _ => none
def z2 (f : Int32 → Int32 → Int32) (pc : Nat) (lv : zLv) (st : List Value) : Option (Nat × zLv × List Value) := match st with
  | .int y :: .int x :: r => some (pc + 1, lv, .int (f x y) :: r)
  | _ => none
def z2d (f : Int32 → Int32 → Int32) (pc : Nat) (lv : zLv) (st : List Value) : Option (Nat × zLv × List Value) := match st with
  | .int y :: .int x :: r => if y = 0 then none else some (pc + 1, lv, .int (f x y) :: r)
  | _ => none
def zbr (b : Bool) (pc : Nat) (off : Int) (lv : zLv) (st : List Value) : Option (Nat × zLv × List Value) := (ztg pc off).map (fun t => (bif b then t else pc + 3, lv, st))
def zint (c idx : Nat) : Option Int32 := ((zip_ c).lookup idx).map (·.1)
def zc1 (k : ClassFile.Cond) (x : Int32) : Bool := match k with
  | .eq => decide (x = 0)
  | .ne => decide (¬ x = 0)
  | .lt => decide (x < 0)
  | .ge => decide (0 ≤ x)
  | .gt => decide (0 < x)
  | .le => decide (x ≤ 0)
def zc2 (k : ClassFile.Cond) (x y : Int32) : Bool := match k with
  | .eq => decide (x = y)
  | .ne => decide (¬ x = y)
  | .lt => decide (x < y)
  | .ge => decide (y ≤ x)
  | .gt => decide (y < x)
  | .le => decide (x ≤ y)
/-- what needs no memory -/
def zP (c : Nat) (i : Instr) (pc : Nat) (lv : zLv) (st : List Value) : Option (Nat × zLv × List Value) := match i with
  | .iconst n => some (pc + 1, lv, .int (Int32.ofInt n) :: st)
  | .bipush n => some (pc + 2, lv, .int (Int8.ofInt n).toInt32 :: st)
  | .sipush n => some (pc + 3, lv, .int (Int16.ofInt n).toInt32 :: st)
  | .iload_n k => zldI lv k.val (pc + 1) st
  | .iload k => zldI lv k (pc + 2) st
  | .aload_n k => zldA lv k.val (pc + 1) st
  | .aload k => zldA lv k (pc + 2) st
  | .istore_n k => zstI lv k.val (pc + 1) st
  | .istore k => zstI lv k (pc + 2) st
  | .astore_n k => zstA lv k.val (pc + 1) st
  | .astore k => zstA lv k (pc + 2) st
  | .iinc k n => match lv[k]? with
    | some (some (.int x)) => some (pc + 3, lv.set k (some (.int (x + Int32.ofInt n))), st)
    | _ => none
  | .iadd => z2 (fun x y => x + y) pc lv st
  | .isub => z2 (fun x y => x - y) pc lv st
  | .imul => z2 (fun x y => x * y) pc lv st
  | .iand => z2 (fun x y => x &&& y) pc lv st
  | .ior => z2 (fun x y => x ||| y) pc lv st
  | .ixor => z2 (fun x y => x ^^^ y) pc lv st
  | .ishl => z2 (fun x y => x <<< (y &&& 31)) pc lv st
  | .ishr => z2 (fun x y => x >>> (y &&& 31)) pc lv st
  | .iushr => z2 (fun x y => (x.toUInt32 >>> (y.toUInt32 &&& Int32.toUInt32 31)).toInt32) pc lv st
  | .idiv => z2d (fun x y => x / y) pc lv st
  | .irem => z2d (fun x y => x - x / y * y) pc lv st
  | .i2l => match st with
    | .int x :: r => some (pc + 1, lv, .long x.toInt64 :: r)
    | _ => none
  | .i2b => match st with
    | .int x :: r => some (pc + 1, lv, .int x.toInt8.toInt32 :: r)
    | _ => none
  | .lcmp => match st with
    | .long y :: .long x :: r => some (pc + 1, lv, .int (lg_cmp x y) :: r)
    | _ => none
  | .dup => match st with
    | v :: r => if v.category = 1 then some (pc + 1, lv, v :: v :: r) else none
    | _ => none
  | .dup2 => match st with
    | v :: w :: r => if v.category = 1 ∧ w.category = 1 then some (pc + 1, lv, v :: w :: v :: w :: r) else none
    | _ => none
  | .pop => match st with
    | v :: r => if v.category = 1 then some (pc + 1, lv, r) else none
    | _ => none
  | .goto off => zgo pc off lv st
  | .ifCond k off => match st with
    | .int x :: r => zbr (zc1 k x) pc off lv r
    | _ => none
  | .if_icmp k off => match st with
    | .int y :: .int x :: r => zbr (zc2 k x y) pc off lv r
    | _ => none
  | .tableswitch dflt lo hi offs => match st with
    | .int x :: r => if x.toInt < lo ∨ hi < x.toInt then zgo pc dflt lv r else match offs[(x.toInt - lo).toNat]? with
      | some off => zgo pc off lv r
      | none => none
    | _ => none
  | .lookupswitch dflt ps => match st with
    | .int x :: r => if (ps.toList.zip (ps.toList.drop 1)).all (fun (a, next) => a.1 < next.1) = true then zgo pc (Op.lookupswitch.offset ps.toList dflt x.toInt) lv r else none
    | _ => none
  | .ldc idx => match zint c idx with
    | some v => some (pc + 2, lv, .int v :: st)
    | none => none
  | .ldc_w idx => match zint c idx with
    | some v => some (pc + 3, lv, .int v :: st)
    | none => none
  | _ => none
abbrev zG : Type := va_G × (Nat → ClassId) × Nat × (Nat → Nat)
def zad (G : zG) (i : Nat) : Nat := if i < 1000 then G.2.2.1 + i else G.2.2.2 (i - 1000)
def zcv (G : zG) (v : Value) : Value := match v with
  | .ref i => .ref (zad G i)
  | v => v
def zlv (G : zG) (lv : zLv) : List (Nat × Value) := (List.range lv.length).filterMap (fun j => match lv[j]? with
  | some (some v) => if v.category = 1 then some (j, zcv G v) else none
  | _ => none)
end
section
theorem zcv_cat (G : zG) (v : Value) : (zcv G v).category = v.category := by cases v <;> rfl
theorem zlv_mem {G : zG} {lv : zLv} {j : Nat} {w : Value} : (j, w) ∈ zlv G lv ↔ ∃ v, lv[j]? = some (some v) ∧ v.category = 1 ∧ zcv G v = w := by
  unfold zlv
  rw [List.mem_filterMap]
  constructor
  · rintro ⟨a, ha, h⟩
    split at h
    · rename_i v hv
      split at h
      · rename_i hc
        cases h
        exact ⟨v, hv, hc, rfl⟩
      · cases h
    · cases h
  · rintro ⟨v, hv, hc, rfl⟩
    refine ⟨j, List.mem_range.mpr ?_, ?_⟩
    · exact (List.getElem?_eq_some_iff.mp hv).1
    · simp [hv, hc]
theorem zlv_get {G : zG} {ls : Array Slot} {nL : Nat} {lv : zLv} (hl : lv_has ls nL (zlv G lv)) {k : Nat} {v : Value} (h : lv[k]? = some (some v)) (hc : v.category = 1) : ls[k]? = some (.val (zcv G v)) := hl.2.2 (k, zcv G v) (zlv_mem.mpr ⟨v, h, hc, rfl⟩)
theorem zlv_set {G : zG} {ls : Array Slot} {nL : Nat} {lv : zLv} {k : Nat} {v : Value} {w : Value} (hw : zcv G v = w) (h : lv_has ls nL ((k, w) :: (zlv G lv).filter (fun q => !(q.1 == k) && !(q.1 + 1 == k && q.2.category == 2)))) : lv_has ls nL (zlv G (lv.set k (some v))) := by
  subst hw
  refine ⟨h.1, h.2.1, fun q hq => h.2.2 q ?_⟩
  obtain ⟨j, x⟩ := q
  obtain ⟨u, hu, hc, rfl⟩ := zlv_mem.mp hq
  rw [List.getElem?_set] at hu
  by_cases hk : k = j
  · subst hk
    rw [if_pos rfl] at hu
    split at hu
    · cases hu
      exact List.mem_cons_self
    · cases hu
  · rw [if_neg hk] at hu
    refine List.mem_cons_of_mem _ (List.mem_filter.mpr ⟨zlv_mem.mpr ⟨u, hu, hc, rfl⟩, ?_⟩)
    have h1 : (j == k) = false := by simp; exact fun e => hk e.symm
    have h2 : ((zcv G u).category == 2) = false := by rw [zcv_cat, hc]; rfl
    simp only [h1, h2, Bool.and_false, Bool.not_false, Bool.and_self]
theorem zlk {i : Instr} {len : Nat} (h : zsw i = true ∨ zlen i = len) (hs : zsw i = false) : len = zlen i := by
  rcases h with h | h
  · rw [hs] at h; cases h
  · exact h.symm
theorem ztg_ok {pc : Nat} {off : Int} {t : Nat} (h : ztg pc off = some t) : (pc : Int) + off = (t : Int) := by
  unfold ztg at h
  split at h
  · cases h
    rename_i h0
    exact (Int.toNat_of_nonneg h0).symm
  · cases h
theorem zlk_of {α β : Type} {l : List (Nat × α)} {k : Nat} {v : α} (h : l.lookup k = some v) : (k, v) ∈ l := by
  induction l with
  | nil => cases h
  | cons a t ih =>
    obtain ⟨x, y⟩ := a
    rw [List.lookup_cons] at h
    by_cases hx : k = x
    · subst hx
      rw [beq_self_eq_true] at h
      cases h
      exact List.mem_cons_self
    · rw [show (k == x) = false by simp [hx]] at h
      exact List.mem_cons_of_mem _ (ih h)
def zWs : List Cond := lw_tbl.filter goodWord
def zipck (c : Nat) : Bool := (zip_ c).all (fun e => decide (lw_tbl[e.2.2]? = some (.constant (zcn c) e.1 e.2.1)))
theorem zipck_0 : (List.range 13).all zipck = true := by decide +kernel
theorem zip_ge {c : Nat} (h : 13 ≤ c) : zip_ c = [] := by
  unfold zip_
  split <;> first | rfl | omega
theorem zint_ok {c idx : Nat} {v : Int32} (h : zint c idx = some v) : Cond.constant (zcn c) idx v ∈ zWs := by
  unfold zint at h
  cases h1 : (zip_ c).lookup idx with
  | none => rw [h1] at h; cases h
  | some q =>
    rw [h1] at h
    cases h
    have hm := zlk_of (β := Unit) h1
    have hc : c < 13 := by
      apply Nat.lt_of_not_le
      intro hc
      rw [zip_ge hc] at hm
      cases hm
    have h2 := List.all_eq_true.mp (List.all_eq_true.mp zipck_0 c (List.mem_range.mpr hc)) _ hm
    exact List.mem_filter.mpr ⟨List.mem_of_getElem? (of_decide_eq_true h2), rfl⟩
section ZP
variable {p : Program} {l : Launch} {e : Env} {R : Room} {s : State} {m : MethodId} {args : Array Value} {below : List Frame} {meth : Method} {c : Code} {H : Heap} {locs : List Loc} {cells slots : Nat} {Q : State → Prop} {G : zG} {cc : ByteArray} {ls : Array Slot} {pc : Nat} {lv : zLv} {nL : Nat}
theorem zldI_ok {i k pc1 : Nat} {st st' : List Value} {pc' : Nat} {lv' : zLv} (hl : lv_has ls nL (zlv G lv)) (hP : zldI lv k pc1 st = some (pc', lv', st')) : ∃ x, ls[k]? = some (.val (.int x)) ∧ pc' = pc1 ∧ lv' = lv ∧ st' = .int x :: st := by
  unfold zldI at hP
  split at hP
  · rename_i x hx
    cases hP
    exact ⟨x, zlv_get hl hx rfl, rfl, rfl, rfl⟩
  · cases hP
theorem zldA_ok {i k pc1 : Nat} {st st' : List Value} {pc' : Nat} {lv' : zLv} (hl : lv_has ls nL (zlv G lv)) (hP : zldA lv k pc1 st = some (pc', lv', st')) : ∃ x, ls[k]? = some (.val (.ref (zad G x))) ∧ pc' = pc1 ∧ lv' = lv ∧ st' = .ref x :: st := by
  unfold zldA at hP
  split at hP
  · rename_i x hx
    cases hP
    exact ⟨x, zlv_get hl hx rfl, rfl, rfl, rfl⟩
  · cases hP
theorem zstI_ok {k pc1 : Nat} {st st' : List Value} {pc' : Nat} {lv' : zLv} (hP : zstI lv k pc1 st = some (pc', lv', st')) : ∃ x r, st = .int x :: r ∧ k < lv.length ∧ pc' = pc1 ∧ lv' = lv.set k (some (.int x)) ∧ st' = r := by
  unfold zstI at hP
  split at hP
  · rename_i x r
    split at hP
    · rename_i hk
      cases hP
      exact ⟨x, _, rfl, hk, rfl, rfl, rfl⟩
    · cases hP
  · cases hP
theorem zstA_ok {k pc1 : Nat} {st st' : List Value} {pc' : Nat} {lv' : zLv} (hP : zstA lv k pc1 st = some (pc', lv', st')) : ∃ x r, st = .ref x :: r ∧ k < lv.length ∧ pc' = pc1 ∧ lv' = lv.set k (some (.ref x)) ∧ st' = r := by
  unfold zstA at hP
  split at hP
  · rename_i x r
    split at hP
    · rename_i hk
      cases hP
      exact ⟨x, _, rfl, hk, rfl, rfl, rfl⟩
    · cases hP
  · cases hP
theorem z2_ok {f : Int32 → Int32 → Int32} {st st' : List Value} {pc' : Nat} {lv' : zLv} (hP : z2 f pc lv st = some (pc', lv', st')) : ∃ x y r, st = .int y :: .int x :: r ∧ pc' = pc + 1 ∧ lv' = lv ∧ st' = .int (f x y) :: r := by
  unfold z2 at hP
  split at hP
  · rename_i y x r
    cases hP
    exact ⟨x, y, _, rfl, rfl, rfl, rfl⟩
  · cases hP
theorem z2d_ok {f : Int32 → Int32 → Int32} {st st' : List Value} {pc' : Nat} {lv' : zLv} (hP : z2d f pc lv st = some (pc', lv', st')) : ∃ x y r, st = .int y :: .int x :: r ∧ ¬ y = 0 ∧ pc' = pc + 1 ∧ lv' = lv ∧ st' = .int (f x y) :: r := by
  unfold z2d at hP
  split at hP
  · rename_i y x r
    split at hP
    · cases hP
    · rename_i hy
      cases hP
      exact ⟨x, y, _, rfl, hy, rfl, rfl, rfl⟩
  · cases hP
theorem zgo_ok {off : Int} {st st' : List Value} {pc' : Nat} {lv' : zLv} (hP : zgo pc off lv st = some (pc', lv', st')) : (pc : Int) + off = (pc' : Int) ∧ lv' = lv ∧ st' = st := by
  unfold zgo at hP
  cases h : ztg pc off with
  | none => rw [h] at hP; cases hP
  | some t =>
    rw [h] at hP
    cases hP
    exact ⟨ztg_ok h, rfl, rfl⟩
theorem zbr_ok {b : Bool} {off : Int} {st st' : List Value} {pc' : Nat} {lv' : zLv} (hP : zbr b pc off lv st = some (pc', lv', st')) : ∃ t : Nat, (pc : Int) + off = (t : Int) ∧ pc' = (bif b then t else pc + 3) ∧ lv' = lv ∧ st' = st := by
  unfold zbr at hP
  cases h : ztg pc off with
  | none => rw [h] at hP; cases hP
  | some t =>
    rw [h] at hP
    cases hP
    exact ⟨t, ztg_ok h, rfl, rfl, rfl⟩
set_option maxHeartbeats 4000000 in
theorem zP_ok (hx : p.tables.exec = Jvm.exec) (hb : c.code = cc) {cn : Nat} (hown : s.vm.findClass (zcn cn) = some m.cls) (hts : ∀ w ∈ zWs, w.before args s = true) {i : Instr} {len : Nat} (hd : decode cc pc = .ok (i, len)) (hlen : zsw i = true ∨ zlen i = len)
    (hl : lv_has ls nL (zlv G lv)) (hnl : lv.length = nL) {st st' : List Value} {pc' : Nat} {lv' : zLv} (hP : zP cn i pc lv st = some (pc', lv', st'))
    (k : ∀ ls' : Array Slot, lv_has ls' nL (zlv G lv') → lv'.length = nL → W p l e R s m args below meth c H locs cells slots Q (F0 m pc' ls' (st'.map (zcv G)))) : W p l e R s m args below meth c H locs cells slots Q (F0 m pc ls (st.map (zcv G))) := by
  cases i
  case iconst n => obtain rfl := zlk hlen rfl; cases hP; exact lv_iconst hx hb hd rfl (k ls hl hnl)
  case bipush n => obtain rfl := zlk hlen rfl; cases hP; exact lv_bipush hx hb hd rfl (k ls hl hnl)
  case sipush n => obtain rfl := zlk hlen rfl; cases hP; exact lv_sipush hx hb hd rfl (k ls hl hnl)
  case iload_n n => obtain rfl := zlk hlen rfl; obtain ⟨x, h1, rfl, rfl, rfl⟩ := zldI_ok (i := 0) hl hP; exact lv_iload_n hx hb hd rfl h1 (k ls hl hnl)
  case iload n => obtain rfl := zlk hlen rfl; obtain ⟨x, h1, rfl, rfl, rfl⟩ := zldI_ok (i := 0) hl hP; exact lv_iload hx hb hd h1 (k ls hl hnl)
  case aload_n n => obtain rfl := zlk hlen rfl; obtain ⟨x, h1, rfl, rfl, rfl⟩ := zldA_ok (i := 0) hl hP; exact lv_aload_n hx hb hd rfl h1 (k ls hl hnl)
  case aload n => obtain rfl := zlk hlen rfl; obtain ⟨x, h1, rfl, rfl, rfl⟩ := zldA_ok (i := 0) hl hP; exact lv_aload hx hb hd h1 (k ls hl hnl)
  case istore_n n => obtain rfl := zlk hlen rfl; obtain ⟨x, r, rfl, hk, rfl, rfl, rfl⟩ := zstI_ok hP; exact lv_istore_n hx hb hd rfl hl (by rw [← hnl]; exact hk) rfl (fun ls' h => k ls' (zlv_set (v := .int x) rfl h) (by rw [List.length_set]; exact hnl))
  case istore n => obtain rfl := zlk hlen rfl; obtain ⟨x, r, rfl, hk, rfl, rfl, rfl⟩ := zstI_ok hP; exact lv_istore hx hb hd hl (by rw [← hnl]; exact hk) rfl (fun ls' h => k ls' (zlv_set (v := .int x) rfl h) (by rw [List.length_set]; exact hnl))
  case astore_n n => obtain rfl := zlk hlen rfl; obtain ⟨x, r, rfl, hk, rfl, rfl, rfl⟩ := zstA_ok hP; exact lv_astore_n hx hb hd rfl hl (by rw [← hnl]; exact hk) rfl (fun ls' h => k ls' (zlv_set (v := .ref x) rfl h) (by rw [List.length_set]; exact hnl))
  case astore n => obtain rfl := zlk hlen rfl; obtain ⟨x, r, rfl, hk, rfl, rfl, rfl⟩ := zstA_ok hP; exact lv_astore hx hb hd hl (by rw [← hnl]; exact hk) rfl (fun ls' h => k ls' (zlv_set (v := .ref x) rfl h) (by rw [List.length_set]; exact hnl))
  case iinc n q =>
    obtain rfl := zlk hlen rfl
    simp only [zP] at hP
    split at hP
    · rename_i x hx2
      cases hP
      have hm : (n, Value.int x) ∈ zlv G lv := zlv_mem.mpr ⟨_, hx2, rfl, rfl⟩
      obtain ⟨q2, hq2⟩ := List.getElem?_of_mem hm
      exact lv_iinc hx hb hd hl hq2 rfl (by rw [← hnl]; exact (List.getElem?_eq_some_iff.mp hx2).1) rfl (fun ls' h => k ls' (zlv_set (v := .int (x + Int32.ofInt q)) rfl h) (by rw [List.length_set]; exact hnl))
    · cases hP
  case iadd => obtain rfl := zlk hlen rfl; obtain ⟨x, y, r, rfl, rfl, rfl, rfl⟩ := z2_ok hP; exact lv_iadd hx hb hd (k ls hl hnl)
  case isub => obtain rfl := zlk hlen rfl; obtain ⟨x, y, r, rfl, rfl, rfl, rfl⟩ := z2_ok hP; exact lv_isub hx hb hd (k ls hl hnl)
  case imul => obtain rfl := zlk hlen rfl; obtain ⟨x, y, r, rfl, rfl, rfl, rfl⟩ := z2_ok hP; exact lv_imul hx hb hd (k ls hl hnl)
  case iand => obtain rfl := zlk hlen rfl; obtain ⟨x, y, r, rfl, rfl, rfl, rfl⟩ := z2_ok hP; exact lv_iand hx hb hd (k ls hl hnl)
  case ior => obtain rfl := zlk hlen rfl; obtain ⟨x, y, r, rfl, rfl, rfl, rfl⟩ := z2_ok hP; exact lv_ior hx hb hd (k ls hl hnl)
  case ixor => obtain rfl := zlk hlen rfl; obtain ⟨x, y, r, rfl, rfl, rfl, rfl⟩ := z2_ok hP; exact lv_ixor hx hb hd (k ls hl hnl)
  case ishl => obtain rfl := zlk hlen rfl; obtain ⟨x, y, r, rfl, rfl, rfl, rfl⟩ := z2_ok hP; exact lv_ishl hx hb hd (k ls hl hnl)
  case ishr => obtain rfl := zlk hlen rfl; obtain ⟨x, y, r, rfl, rfl, rfl, rfl⟩ := z2_ok hP; exact lv_ishr hx hb hd (k ls hl hnl)
  case iushr => obtain rfl := zlk hlen rfl; obtain ⟨x, y, r, rfl, rfl, rfl, rfl⟩ := z2_ok hP; exact lv_iushr hx hb hd rfl (k ls hl hnl)
  case idiv => obtain rfl := zlk hlen rfl; obtain ⟨x, y, r, rfl, hy, rfl, rfl, rfl⟩ := z2d_ok hP; exact lv_idiv hx hb hd hy (k ls hl hnl)
  case irem => obtain rfl := zlk hlen rfl; obtain ⟨x, y, r, rfl, hy, rfl, rfl, rfl⟩ := z2d_ok hP; exact lv_irem hx hb hd hy (k ls hl hnl)
  case i2l =>
    obtain rfl := zlk hlen rfl
    simp only [zP] at hP
    split at hP
    · cases hP; exact lv_i2l hx hb hd rfl (k ls hl hnl)
    · cases hP
  case i2b =>
    obtain rfl := zlk hlen rfl
    simp only [zP] at hP
    split at hP
    · cases hP; exact lv_i2b hx hb hd rfl (k ls hl hnl)
    · cases hP
  case lcmp =>
    obtain rfl := zlk hlen rfl
    simp only [zP] at hP
    split at hP
    · cases hP; exact W.lcmp hx hb hd (k ls hl hnl)
    · cases hP
  case dup =>
    obtain rfl := zlk hlen rfl
    simp only [zP] at hP
    split at hP
    · split at hP
      · rename_i hc
        cases hP; exact lv_dup hx hb hd (by rw [zcv_cat]; exact hc) (k ls hl hnl)
      · cases hP
    · cases hP
  case dup2 =>
    obtain rfl := zlk hlen rfl
    simp only [zP] at hP
    split at hP
    · split at hP
      · rename_i hc
        cases hP; exact lv_dup2_11 hx hb hd (by rw [zcv_cat]; exact hc.1) (by rw [zcv_cat]; exact hc.2) (k ls hl hnl)
      · cases hP
    · cases hP
  case pop =>
    obtain rfl := zlk hlen rfl
    simp only [zP] at hP
    split at hP
    · split at hP
      · rename_i hc
        cases hP; exact lv_pop hx hb hd (by rw [zcv_cat]; exact hc) (k ls hl hnl)
      · cases hP
    · cases hP
  case goto off => obtain rfl := zlk hlen rfl; obtain ⟨h1, rfl, rfl⟩ := zgo_ok hP; exact lv_goto hx hb hd h1 (k ls hl hnl)
  case ifCond kk off =>
    obtain rfl := zlk hlen rfl
    simp only [zP] at hP
    split at hP
    · rename_i x r
      obtain ⟨t, ht, hpc, rfl, rfl⟩ := zbr_ok hP
      cases kk
      case eq => exact lv_if_eq hx hb hd ht (fun h => by simp only [zc1, decide_eq_true h, cond_true] at hpc; subst hpc; exact k ls hl hnl) (fun h => by simp only [zc1, decide_eq_false h, cond_false] at hpc; subst hpc; exact k ls hl hnl)
      case ne => exact lv_if_ne hx hb hd ht (fun h => by simp only [zc1, decide_eq_true h, cond_true] at hpc; subst hpc; exact k ls hl hnl) (fun h => by simp only [zc1, decide_eq_false (not_not_intro h), cond_false] at hpc; subst hpc; exact k ls hl hnl)
      case lt => exact lv_if_lt hx hb hd ht (fun h => by simp only [zc1, decide_eq_true h, cond_true] at hpc; subst hpc; exact k ls hl hnl) (fun h => by simp only [zc1, decide_eq_false h, cond_false] at hpc; subst hpc; exact k ls hl hnl)
      case ge => exact lv_if_ge hx hb hd ht (fun h => by simp only [zc1, decide_eq_true h, cond_true] at hpc; subst hpc; exact k ls hl hnl) (fun h => by simp only [zc1, decide_eq_false h, cond_false] at hpc; subst hpc; exact k ls hl hnl)
      case gt => exact lv_if_gt hx hb hd ht (fun h => by simp only [zc1, decide_eq_true h, cond_true] at hpc; subst hpc; exact k ls hl hnl) (fun h => by simp only [zc1, decide_eq_false h, cond_false] at hpc; subst hpc; exact k ls hl hnl)
      case le => exact lv_if_le hx hb hd ht (fun h => by simp only [zc1, decide_eq_true h, cond_true] at hpc; subst hpc; exact k ls hl hnl) (fun h => by simp only [zc1, decide_eq_false h, cond_false] at hpc; subst hpc; exact k ls hl hnl)
    · cases hP
  case if_icmp kk off =>
    obtain rfl := zlk hlen rfl
    simp only [zP] at hP
    split at hP
    · rename_i y x r
      obtain ⟨t, ht, hpc, rfl, rfl⟩ := zbr_ok hP
      cases kk
      case eq => exact lv_icmp_eq hx hb hd ht (fun h => by simp only [zc2, decide_eq_true h, cond_true] at hpc; subst hpc; exact k ls hl hnl) (fun h => by simp only [zc2, decide_eq_false h, cond_false] at hpc; subst hpc; exact k ls hl hnl)
      case ne => exact lv_icmp_ne hx hb hd ht (fun h => by simp only [zc2, decide_eq_true h, cond_true] at hpc; subst hpc; exact k ls hl hnl) (fun h => by simp only [zc2, decide_eq_false (not_not_intro h), cond_false] at hpc; subst hpc; exact k ls hl hnl)
      case lt => exact lv_icmp_lt hx hb hd ht (fun h => by simp only [zc2, decide_eq_true h, cond_true] at hpc; subst hpc; exact k ls hl hnl) (fun h => by simp only [zc2, decide_eq_false h, cond_false] at hpc; subst hpc; exact k ls hl hnl)
      case ge => exact lv_icmp_ge hx hb hd ht (fun h => by simp only [zc2, decide_eq_true h, cond_true] at hpc; subst hpc; exact k ls hl hnl) (fun h => by simp only [zc2, decide_eq_false h, cond_false] at hpc; subst hpc; exact k ls hl hnl)
      case gt => exact lv_icmp_gt hx hb hd ht (fun h => by simp only [zc2, decide_eq_true h, cond_true] at hpc; subst hpc; exact k ls hl hnl) (fun h => by simp only [zc2, decide_eq_false h, cond_false] at hpc; subst hpc; exact k ls hl hnl)
      case le => exact lv_icmp_le hx hb hd ht (fun h => by simp only [zc2, decide_eq_true h, cond_true] at hpc; subst hpc; exact k ls hl hnl) (fun h => by simp only [zc2, decide_eq_false h, cond_false] at hpc; subst hpc; exact k ls hl hnl)
    · cases hP
  case tableswitch dflt lo hi offs =>
    simp only [zP] at hP
    split at hP
    · split at hP
      · rename_i hc
        obtain ⟨h1, rfl, rfl⟩ := zgo_ok hP
        exact lv_tableOut hx hb hd hc h1 (k ls hl hnl)
      · rename_i hc
        split at hP
        · rename_i off ho
          obtain ⟨h1, rfl, rfl⟩ := zgo_ok hP
          exact lv_tableIn hx hb hd (fun h => hc (Or.inl h)) (fun h => hc (Or.inr h)) ho h1 (k ls hl hnl)
        · cases hP
    · cases hP
  case lookupswitch dflt ps =>
    simp only [zP] at hP
    split at hP
    · split at hP
      · rename_i hc
        obtain ⟨h1, rfl, rfl⟩ := zgo_ok hP
        exact lv_lookup hx hb hd hc rfl h1 (k ls hl hnl)
      · cases hP
    · cases hP
  case ldc idx =>
    obtain rfl := zlk hlen rfl
    simp only [zP] at hP
    split at hP
    · rename_i v hv
      cases hP
      exact lv_ldc hx hb hown (hts _ (zint_ok hv)) hd (k ls hl hnl)
    · cases hP
  case ldc_w idx =>
    obtain rfl := zlk hlen rfl
    simp only [zP] at hP
    split at hP
    · rename_i v hv
      cases hP
      exact lv_ldcw hx hb hown (hts _ (zint_ok hv)) hd (k ls hl hnl)
    · cases hP
  all_goals cases hP
end ZP
end
section
/-- the fields of a class: 0 an int, 1 a boolean, 2 a reference; whether final -/
def zft : Nat → List (Nat × Bool) := fun c => match c with
  | 0 => [(1, false), (0, false), (0, false), (0, false), (2, true), (0, false), (0, false), (0, false), (2, true), (0, false)]
  | 1 => [(0, false), (0, false), (0, false), (0, false)]
  | 2 => [(2, true), (0, false), (0, false)]
  | 3 => [(2, true), (2, true), (2, true), (2, true), (2, true), (0, false), (0, false), (0, false), (0, false), (0, false), (2, true), (2, true), (0, false), (2, true)]
  | 4 => [(2, true), (2, true), (2, true), (2, true), (2, true), (2, true), (0, false), (0, false), (1, false), (1, false)]
  | 5 => [(2, true), (2, true), (0, false), (0, false), (0, false)]
  | 6 => [(2, true), (2, true), (0, false), (0, false), (0, false), (0, false), (0, false), (0, false), (2, true), (2, true)]
  | 7 => [(2, true), (0, false)]
  | 8 => [(2, true), (2, true), (2, true), (1, false), (2, true), (0, false), (0, false), (2, true), (2, true), (2, true)]
  | 9 => [(0, false), (2, true), (2, true), (2, true), (1, false), (1, false), (2, true), (0, false), (0, false), (0, false), (0, false), (0, false), (2, true), (2, true), (2, true), (2, true), (0, false)]
  | _ => []
def zty : Nat → Nat → FieldType := fun c => match c with
  | 0 => tyX0
  | 1 => tyX1
  | 2 => tyX2
  | 3 => tyX3
  | 4 => tyX4
  | 5 => tyX5
  | 6 => tyX6
  | 7 => tyX7
  | 8 => tyX8
  | _ => tyX9
theorem zin_0 : ∀ w ∈ u_ws RX0 TX0 10, w ∈ zWs := fun w h => by
  have h1 := goodIn_r (big := lw_tbl) (u_ws RX0 TX0 10) [215, 217, 219, 221, 223, 225, 227, 229, 231, 233] (by decide +kernel) (by decide +kernel) w h
  exact List.mem_filter.mpr ⟨h1.1, List.all_eq_true.mp (show (u_ws RX0 TX0 10).all goodWord = true by decide +kernel) w h⟩
theorem zin_1 : ∀ w ∈ u_ws RX1 TX1 4, w ∈ zWs := fun w h => by
  have h1 := goodIn_r (big := lw_tbl) (u_ws RX1 TX1 4) [168, 170, 172, 174] (by decide +kernel) (by decide +kernel) w h
  exact List.mem_filter.mpr ⟨h1.1, List.all_eq_true.mp (show (u_ws RX1 TX1 4).all goodWord = true by decide +kernel) w h⟩
theorem zin_2 : ∀ w ∈ u_ws RX2 TX2 3, w ∈ zWs := fun w h => by
  have h1 := goodIn_r (big := lw_tbl) (u_ws RX2 TX2 3) [295, 297, 299] (by decide +kernel) (by decide +kernel) w h
  exact List.mem_filter.mpr ⟨h1.1, List.all_eq_true.mp (show (u_ws RX2 TX2 3).all goodWord = true by decide +kernel) w h⟩
theorem zin_3 : ∀ w ∈ u_ws RX3 TX3 14, w ∈ zWs := fun w h => by
  have h1 := goodIn_r (big := lw_tbl) (u_ws RX3 TX3 14) [337, 339, 341, 343, 345, 347, 349, 351, 353, 355, 357, 359, 361, 363] (by decide +kernel) (by decide +kernel) w h
  exact List.mem_filter.mpr ⟨h1.1, List.all_eq_true.mp (show (u_ws RX3 TX3 14).all goodWord = true by decide +kernel) w h⟩
theorem zin_4 : ∀ w ∈ u_ws RX4 TX4 10, w ∈ zWs := fun w h => by
  have h1 := goodIn_r (big := lw_tbl) (u_ws RX4 TX4 10) [419, 421, 423, 425, 427, 429, 431, 433, 435, 437] (by decide +kernel) (by decide +kernel) w h
  exact List.mem_filter.mpr ⟨h1.1, List.all_eq_true.mp (show (u_ws RX4 TX4 10).all goodWord = true by decide +kernel) w h⟩
theorem zin_5 : ∀ w ∈ u_ws RX5 TX5 5, w ∈ zWs := fun w h => by
  have h1 := goodIn_r (big := lw_tbl) (u_ws RX5 TX5 5) [377, 379, 381, 383, 385] (by decide +kernel) (by decide +kernel) w h
  exact List.mem_filter.mpr ⟨h1.1, List.all_eq_true.mp (show (u_ws RX5 TX5 5).all goodWord = true by decide +kernel) w h⟩
theorem zin_6 : ∀ w ∈ u_ws RX6 TX6 10, w ∈ zWs := fun w h => by
  have h1 := goodIn_r (big := lw_tbl) (u_ws RX6 TX6 10) [264, 266, 268, 270, 272, 274, 276, 278, 280, 282] (by decide +kernel) (by decide +kernel) w h
  exact List.mem_filter.mpr ⟨h1.1, List.all_eq_true.mp (show (u_ws RX6 TX6 10).all goodWord = true by decide +kernel) w h⟩
theorem zin_7 : ∀ w ∈ u_ws RX7 TX7 2, w ∈ zWs := fun w h => by
  have h1 := goodIn_r (big := lw_tbl) (u_ws RX7 TX7 2) [397, 399] (by decide +kernel) (by decide +kernel) w h
  exact List.mem_filter.mpr ⟨h1.1, List.all_eq_true.mp (show (u_ws RX7 TX7 2).all goodWord = true by decide +kernel) w h⟩
theorem zin_8 : ∀ w ∈ u_ws RX8 TX8 10, w ∈ zWs := fun w h => by
  have h1 := goodIn_r (big := lw_tbl) (u_ws RX8 TX8 10) [450, 452, 454, 456, 458, 460, 462, 464, 466, 468] (by decide +kernel) (by decide +kernel) w h
  exact List.mem_filter.mpr ⟨h1.1, List.all_eq_true.mp (show (u_ws RX8 TX8 10).all goodWord = true by decide +kernel) w h⟩
theorem zin_9 : ∀ w ∈ u_ws RX9 TX9 17, w ∈ zWs := fun w h => by
  have h1 := goodIn_r (big := lw_tbl) (u_ws RX9 TX9 17) [1318, 1320, 1322, 1324, 1326, 1328, 1330, 1332, 1334, 1336, 1338, 1340, 1342, 1344, 1346, 1348, 1350] (by decide +kernel) (by decide +kernel) w h
  exact List.mem_filter.mpr ⟨h1.1, List.all_eq_true.mp (show (u_ws RX9 TX9 17).all goodWord = true by decide +kernel) w h⟩
def zcpl : List (Nat × Nat) := [(186, 111), (148, 109), (286, 112), (141, 108), (403, 115), (367, 113), (180, 110), (390, 114), (133, 107), (1296, 116)]
def zcck : Bool := (List.range 10).all (fun c => match vwCl[c]?, zcpl[c]? with
  | some q, some r => decide (q.1 = zcn c) && decide (lw_tbl[r.1]? = some (.instantiable q.1 q.2.2)) && decide (lw_tbl[r.2]? = some (.initialized q.1)) && decide ((zft c).length = q.2.2) && (List.range q.2.2).all (fun k => decide ((q.2.1 k).1 = q.1) && match (zft c)[k]? with
    | some (t, f) => decide ((q.2.1 k).2.2.2 = f) && (match t, zty c k with | 0, .int => true | 1, .boolean => true | 2, .array _ => true | 2, .object _ => true | _, _ => false)
    | none => false)
  | _, _ => false)
theorem zcck_ok : zcck = true := by decide +kernel
theorem zcl_lt {ci : Nat} {q : vw_C} (h : vwCl[ci]? = some q) : ci < 10 := (List.getElem?_eq_some_iff.mp h).1
theorem zcl_in {ci : Nat} {q : vw_C} (h : vwCl[ci]? = some q) : ∀ w ∈ u_ws q.1 q.2.1 q.2.2, w ∈ zWs := by
  match ci, h with
  | 0, h => cases h; exact zin_0
  | 1, h => cases h; exact zin_1
  | 2, h => cases h; exact zin_2
  | 3, h => cases h; exact zin_3
  | 4, h => cases h; exact zin_4
  | 5, h => cases h; exact zin_5
  | 6, h => cases h; exact zin_6
  | 7, h => cases h; exact zin_7
  | 8, h => cases h; exact zin_8
  | 9, h => cases h; exact zin_9
  | k + 10, h => exact absurd (zcl_lt h) (by omega)
theorem zcl_ty {ci : Nat} {q : vw_C} (h : vwCl[ci]? = some q) : ∀ k, k < q.2.2 → parseFieldDescriptor (q.2.1 k).2.2.1 = some (zty ci k) := by
  match ci, h with
  | 0, h => cases h; exact tyX0_ok
  | 1, h => cases h; exact tyX1_ok
  | 2, h => cases h; exact tyX2_ok
  | 3, h => cases h; exact tyX3_ok
  | 4, h => cases h; exact tyX4_ok
  | 5, h => cases h; exact tyX5_ok
  | 6, h => cases h; exact tyX6_ok
  | 7, h => cases h; exact tyX7_ok
  | 8, h => cases h; exact tyX8_ok
  | 9, h => cases h; exact tyX9_ok
  | k + 10, h => exact absurd (zcl_lt h) (by omega)
theorem zcl_nm {ci : Nat} {q : vw_C} (h : vwCl[ci]? = some q) : ∀ a, a < q.2.2 → ∀ b, b < q.2.2 → a ≠ b → (q.2.1 a).2.1 ≠ (q.2.1 b).2.1 := by
  match ci, h with
  | 0, h => cases h; exact nmX0
  | 1, h => cases h; exact nmX1
  | 2, h => cases h; exact nmX2
  | 3, h => cases h; exact nmX3
  | 4, h => cases h; exact nmX4
  | 5, h => cases h; exact nmX5
  | 6, h => cases h; exact nmX6
  | 7, h => cases h; exact nmX7
  | 8, h => cases h; exact nmX8
  | 9, h => cases h; exact nmX9
  | k + 10, h => exact absurd (zcl_lt h) (by omega)
theorem zarr_i : Cond.arrayClass .int ∈ zWs := List.mem_filter.mpr ⟨List.mem_of_getElem? (i := 177) (by decide +kernel), rfl⟩
theorem zarr_b : Cond.arrayClass .byte ∈ zWs := List.mem_filter.mpr ⟨List.mem_of_getElem? (i := 388) (by decide +kernel), rfl⟩
theorem zarr_l : Cond.arrayClass .long ∈ zWs := List.mem_filter.mpr ⟨List.mem_of_getElem? (i := 1824) (by decide +kernel), rfl⟩
theorem zob_i : Cond.instanceMethod Lib.objectInit ∈ zWs := List.mem_filter.mpr ⟨List.mem_of_getElem? (i := 138) (by decide +kernel), rfl⟩
theorem zob_c : Cond.code Lib.objectInit ⟨#[0xb1]⟩ 1 none ∈ zWs := List.mem_filter.mpr ⟨List.mem_of_getElem? (i := 139) (by decide +kernel), rfl⟩
theorem zac_n : Cond.native arraycopyName ∈ zWs := List.mem_filter.mpr ⟨List.mem_of_getElem? (i := 505) (by decide +kernel), rfl⟩
theorem zac_s : Cond.static arraycopyName ∈ zWs := List.mem_filter.mpr ⟨List.mem_of_getElem? (i := 504) (by decide +kernel), rfl⟩
theorem zac_i : Cond.initialized "java/lang/System" ∈ zWs := List.mem_filter.mpr ⟨List.mem_of_getElem? (i := 117) (by decide +kernel), rfl⟩
def zpck (c : Nat) : Bool := (zfp c).all (fun e => match vwCl[e.2.1]? with
    | some q => decide (e.2.2.1 < q.2.2) && decide (lw_tbl[e.2.2.2]? = some (.fieldLink (zcn c) e.1 (q.2.1 e.2.2.1).1 (q.2.1 e.2.2.1).2.1 (q.2.1 e.2.2.1).2.2.1))
    | none => false) && (zcp c).all (fun e => match vwCl[e.2.1]? with
    | some q => decide (lw_tbl[e.2.2]? = some (.classLink (zcn c) e.1 q.1))
    | none => false) && (zmp c).all (fun e => match e.2.1 with
    | 4 => decide (lw_tbl[e.2.2.2]? = some (.methodLink (zcn c) e.1 Lib.objectInit))
    | 5 => decide (lw_tbl[e.2.2.2]? = some (.methodLink (zcn c) e.1 arraycopyName))
    | _ => true)
theorem zpck_ok : (List.range 13).all zpck = true := by decide +kernel
theorem zfp_ge {c : Nat} (h : 13 ≤ c) : zfp c = [] := by unfold zfp; split <;> first | rfl | omega
theorem zcp_ge {c : Nat} (h : 13 ≤ c) : zcp c = [] := by unfold zcp; split <;> first | rfl | omega
theorem zmp_ge {c : Nat} (h : 13 ≤ c) : zmp c = [] := by unfold zmp; split <;> first | rfl | omega
end
section
/-! the memory: what the cells are -/
def zN (ci : Nat) : Nat := match vwCl[ci]? with
  | some q => q.2.2
  | none => 0
def zrv (rs : List Nat) (k : Nat) : Option Nat := match rs[k]? with
  | some (b + 1) => some b
  | _ => none
def zfv (G : zG) (m : Nat → Nat → Int32) (i kd : Nat) (rs : List Nat) (k : Nat) : Value := match (zft kd)[k]? with
  | some (2, _) => va_rf ((zrv rs k).map (zad G))
  | _ => .int (m i k)
def zcell (G : zG) (m : Nat → Nat → Int32) (lf : Nat → Nat → Int64) (i : Nat) (q : Nat × Nat × List Nat) : va_E :=
  if q.1 < 10 then .inr (q.1, (List.range (zN q.1)).map (zfv G m i q.1 q.2.2))
  else if q.1 = 10 then .inl (G.2.1 0, q.2.1, .inl (m i))
  else if q.1 = 11 then .inl (G.2.1 1, q.2.1, .inl (m i))
  else if q.1 = 12 then .inl (G.2.1 2, q.2.1, .inr (.inr (.inr (.inr (fun k => (zrv q.2.2 k).map (zad G))))))
  else if q.1 = 13 then .inl (G.2.1 3, q.2.1, .inr (.inr (.inr (.inr (fun k => (zrv q.2.2 k).map (zad G))))))
  else .inl (G.2.1 4, q.2.1, .inr (.inl (lf i)))
def zcel (G : zG) (M : zMem) (i : Nat) : va_E := zcell G M.2.1 M.2.2.1 i (M.1.getD i (0, 0, []))
def zw (G : zG) (M : zMem) : va_W := (List.range M.1.length).map (fun i => (zad G i, zcel G M i))
def zA (G : zG) : Nat → Prop := fun q => G.2.2.1 ≤ q
def ztys (G : zG) : List (ClassId × FieldType) := [(G.2.1 0, .int), (G.2.1 1, .byte), (G.2.1 2, .object "ElidedLocks$Lock"), (G.2.1 3, .object "ElidedLocks$Strand"), (G.2.1 4, .long)]
def zRel (G : zG) (M : zMem) (H : Heap) : Prop := va_P G.1 vwCl (zw G M) H ∧ M.1.length ≤ 1000
theorem zw_len (G : zG) (M : zMem) : (zw G M).length = M.1.length := by simp [zw]
theorem zw_at (G : zG) (M : zMem) {i : Nat} (h : i < M.1.length) : (zw G M)[i]? = some (zad G i, zcel G M i) := by
  simp [zw, h]
theorem zcel_eq {G : zG} {M : zMem} {i : Nat} {q : Nat × Nat × List Nat} (h : M.1[i]? = some q) : zcel G M i = zcell G M.2.1 M.2.2.1 i q := by
  unfold zcel
  rw [List.getD_eq_getElem?_getD, h]; rfl
theorem zw_get {G : zG} {M : zMem} {i : Nat} {q : Nat × Nat × List Nat} (h : M.1[i]? = some q) : (zw G M)[i]? = some (zad G i, zcell G M.2.1 M.2.2.1 i q) := by
  rw [zw_at G M (List.getElem?_eq_some_iff.mp h).1, zcel_eq h]
theorem zw_set {G : zG} {M M' : zMem} {i : Nat} {E : va_E} (hS : M'.1.length = M.1.length) (h1 : zcel G M' i = E) (h2 : ∀ j, j ≠ i → zcel G M' j = zcel G M j) : (zw G M).set i (zad G i, E) = zw G M' := by
  apply List.ext_getElem?
  intro j
  rw [List.getElem?_set, zw_len]
  by_cases hj : j < M.1.length
  · rw [zw_at G M' (by rw [hS]; exact hj), zw_at G M hj]
    by_cases hi : i = j
    · subst hi
      rw [if_pos rfl, if_pos hj, h1]
    · rw [if_neg hi, h2 j (fun e => hi e.symm)]
  · have e1 : (zw G M')[j]? = none := List.getElem?_eq_none (by rw [zw_len, hS]; exact Nat.le_of_not_lt hj)
    have e2 : (zw G M)[j]? = none := List.getElem?_eq_none (by rw [zw_len]; exact Nat.le_of_not_lt hj)
    rw [e1, e2]
    by_cases hi : i = j
    · subst hi
      rw [if_pos rfl, if_neg hj]
    · rw [if_neg hi]
theorem zw_push {G : zG} {M M' : zMem} {q : Nat × Nat × List Nat} {E : va_E} (hS : M'.1 = M.1 ++ [q]) (h1 : zcel G M' M.1.length = E) (h2 : ∀ j, j < M.1.length → zcel G M' j = zcel G M j) : zw G M ++ [(zad G M.1.length, E)] = zw G M' := by
  have hl : M'.1.length = M.1.length + 1 := by rw [hS]; simp
  apply List.ext_getElem?
  intro j
  by_cases hj : j < M.1.length
  · rw [List.getElem?_append_left (by rw [zw_len]; exact hj), zw_at G M hj, zw_at G M' (by omega), h2 j hj]
  · rw [List.getElem?_append_right (by rw [zw_len]; omega), zw_len]
    by_cases hk : j = M.1.length
    · subst hk
      rw [Nat.sub_self, zw_at G M' (by omega), h1]; rfl
    · rw [List.getElem?_eq_none (by simp; omega), List.getElem?_eq_none (by rw [zw_len]; omega)]
theorem zw_D (G : zG) (M : zMem) (h : M.1.length ≤ 1000) : va_D (zA G) (zw G M) := by
  have key : ∀ (i : Nat) (x : Nat × va_E), (zw G M)[i]? = some x → i < M.1.length ∧ x.1 = G.2.2.1 + i := by
    intro i x hx
    have hi : i < M.1.length := by rw [← zw_len G M]; exact (List.getElem?_eq_some_iff.mp hx).1
    rw [zw_at G M hi] at hx
    cases hx
    refine ⟨hi, ?_⟩
    show zad G i = _
    unfold zad
    rw [if_pos (by omega)]
  refine ⟨fun i j x y hx hy hxy => ?_, fun i x hx => ?_⟩
  · have a := (key i x hx).2
    have b := (key j y hy).2
    omega
  · rw [zA, (key i x hx).2]
    exact Nat.le_add_right _ _
theorem zfs_get {G : zG} {m : Nat → Nat → Int32} {i kd : Nat} {rs : List Nat} {k : Nat} (hk : k < zN kd) : ((List.range (zN kd)).map (zfv G m i kd rs))[k]? = some (zfv G m i kd rs k) := by
  simp [hk]
theorem zfs_set {G : zG} {m m' : Nat → Nat → Int32} {i kd : Nat} {rs rs' : List Nat} {k : Nat} {v : Value} (h1 : zfv G m' i kd rs' k = v) (h2 : ∀ j, j ≠ k → zfv G m' i kd rs' j = zfv G m i kd rs j) : ((List.range (zN kd)).map (zfv G m i kd rs)).set k v = (List.range (zN kd)).map (zfv G m' i kd rs') := by
  apply List.ext_getElem?
  intro j
  rw [List.getElem?_set]
  by_cases hj : j < zN kd
  · by_cases hk : k = j
    · subst hk
      simp [hj, h1]
    · rw [if_neg hk]
      simp [hj, h2 j (fun e => hk e.symm)]
  · by_cases hk : k = j
    · subst hk
      simp [hj]
    · rw [if_neg hk]
      simp [hj]
/-! the steps that read or write the memory -/
def zm2 (m : Nat → Nat → Int32) (a k : Nat) (x : Int32) : Nat → Nat → Int32 := fun i => if i = a then upd (m a) k x else m i
def zl2 (m : Nat → Nat → Int64) (a k : Nat) (x : Int64) : Nat → Nat → Int64 := fun i => if i = a then vp_updL (m a) k x else m i
def zout (i : Int32) (n : Nat) : Prop := i < 0 ∨ n ≤ i.toNatClampNeg
def zoutB (i : Int32) (n : Nat) : Bool := decide (i < 0) || decide (n ≤ i.toNatClampNeg)
theorem zoutB_f {i : Int32} {n : Nat} (h : zoutB i n = false) : vp_in i n := by
  unfold zoutB at h
  rw [Bool.or_eq_false_iff] at h
  exact fun q => q.elim (of_decide_eq_false h.1) (of_decide_eq_false h.2)
def zgetf (c idx pc : Nat) (st : List Value) (M : zMem) : Option (Nat × List Value × zMem) := match (zfp c).lookup idx with
  | some (ci, k, _) => match st with
    | .ref a :: r => match M.1[a]? with
      | some (kd, _, rs) => bif kd == ci then match (zft ci)[k]? with
        | some (2, _) => match zrv rs k with
          | some b => some (pc + 3, .ref b :: r, M)
          | none => none
        | some _ => some (pc + 3, .int (M.2.1 a k) :: r, M)
        | none => none
        else none
      | none => none
    | _ => none
  | none => none
def zputf (c : Nat) (ini : Bool) (idx pc : Nat) (st : List Value) (M : zMem) : Option (Nat × List Value × zMem) := match (zfp c).lookup idx with
  | some (ci, k, _) => match st with
    | .int x :: .ref a :: r => match M.1[a]? with
      | some (kd, _, _) => bif kd == ci then match (zft ci)[k]? with
        | some (0, false) => some (pc + 3, r, (M.1, zm2 M.2.1 a k x, M.2.2))
        | some (1, false) => if x = 0 ∨ x = 1 then some (pc + 3, r, (M.1, zm2 M.2.1 a k x, M.2.2)) else none
        | _ => none
        else none
      | none => none
    | .ref b :: .ref a :: r => match M.1[a]? with
      | some (kd, n, rs) => bif kd == ci && ini && ci == c && decide (k < rs.length) then match (zft ci)[k]? with
        | some (2, true) => some (pc + 3, r, (M.1.set a (kd, n, rs.set k (b + 1)), M.2))
        | _ => none
        else none
      | none => none
    | _ => none
  | none => none
def ziald (σ : Nat → Nat × (Nat → Int32)) (pc : Nat) (st : List Value) (M : zMem) : Option (Nat × List Value × zMem) := match st with
  | .int i :: .ref a :: r => bif Nat.blt a 1000 then match M.1[a]? with
      | some (kd, n, _) => bif kd == 10 && !zoutB i n then some (pc + 1, .int (M.2.1 a i.toNatClampNeg) :: r, M) else none
      | none => none
    else bif Nat.blt a 1005 && !zoutB i (σ (a - 1000)).1 then some (pc + 1, .int ((σ (a - 1000)).2 i.toNatClampNeg) :: r, M) else none
  | _ => none
def zbald (pc : Nat) (st : List Value) (M : zMem) : Option (Nat × List Value × zMem) := match st with
  | .int i :: .ref a :: r => match M.1[a]? with
      | some (kd, n, _) => bif kd == 11 && !zoutB i n then some (pc + 1, .int (M.2.1 a i.toNatClampNeg) :: r, M) else none
      | none => none
  | _ => none
def zlald (pc : Nat) (st : List Value) (M : zMem) : Option (Nat × List Value × zMem) := match st with
  | .int i :: .ref a :: r => match M.1[a]? with
      | some (kd, n, _) => bif kd == 14 && !zoutB i n then some (pc + 1, .long (M.2.2.1 a i.toNatClampNeg) :: r, M) else none
      | none => none
  | _ => none
def zaald (pc : Nat) (st : List Value) (M : zMem) : Option (Nat × List Value × zMem) := match st with
  | .int i :: .ref a :: r => match M.1[a]? with
      | some (kd, n, rs) => bif (kd == 12 || kd == 13) && !zoutB i n then match zrv rs i.toNatClampNeg with
          | some b => some (pc + 1, .ref b :: r, M)
          | none => none
        else none
      | none => none
  | _ => none
def ziast (pc : Nat) (st : List Value) (M : zMem) : Option (Nat × List Value × zMem) := match st with
  | .int x :: .int i :: .ref a :: r => match M.1[a]? with
      | some (kd, n, _) => bif kd == 10 && !zoutB i n then some (pc + 1, r, (M.1, zm2 M.2.1 a i.toNatClampNeg x, M.2.2)) else none
      | none => none
  | _ => none
def zbast (pc : Nat) (st : List Value) (M : zMem) : Option (Nat × List Value × zMem) := match st with
  | .int x :: .int i :: .ref a :: r => match M.1[a]? with
      | some (kd, n, _) => bif kd == 11 && !zoutB i n then some (pc + 1, r, (M.1, zm2 M.2.1 a i.toNatClampNeg (vp_nar .byte x), M.2.2)) else none
      | none => none
  | _ => none
def zlast (pc : Nat) (st : List Value) (M : zMem) : Option (Nat × List Value × zMem) := match st with
  | .long x :: .int i :: .ref a :: r => match M.1[a]? with
      | some (kd, n, _) => bif kd == 14 && !zoutB i n then some (pc + 1, r, (M.1, M.2.1, zl2 M.2.2.1 a i.toNatClampNeg x, M.2.2.2)) else none
      | none => none
  | _ => none
def zaast (pc : Nat) (st : List Value) (M : zMem) : Option (Nat × List Value × zMem) := match st with
  | .ref v :: .int i :: .ref a :: r => match M.1[a]?, M.1[v]? with
      | some (kd, n, rs), some (kv, _, _) => bif ((kd == 12 && kv == 1) || (kd == 13 && kv == 6)) && !zoutB i n && decide (i.toNatClampNeg < rs.length) then some (pc + 1, r, (M.1.set a (kd, n, rs.set i.toNatClampNeg (v + 1)), M.2)) else none
      | _, _ => none
  | _ => none
def zalen (σ : Nat → Nat × (Nat → Int32)) (pc : Nat) (st : List Value) (M : zMem) : Option (Nat × List Value × zMem) := match st with
  | .ref a :: r => bif Nat.blt a 1000 then match M.1[a]? with
      | some (kd, n, _) => bif kd == 10 || kd == 11 then some (pc + 1, .int (Int32.ofNat n) :: r, M) else none
      | none => none
    else bif Nat.blt a 1005 then some (pc + 1, .int (Int32.ofNat (σ (a - 1000)).1) :: r, M) else none
  | _ => none
def zpush (q : Nat × Nat × List Nat) (n : Nat) (M : zMem) : zMem := (M.1 ++ [q], (fun i => if i = M.1.length then fun _ => 0 else M.2.1 i), (fun i => if i = M.1.length then fun _ => 0 else M.2.2.1 i), M.2.2.2.1, M.2.2.2.2.1 + 1, M.2.2.2.2.2 + n)
def znew (c idx pc : Nat) (st : List Value) (M : zMem) : Option (Nat × List Value × zMem) := match (zcp c).lookup idx with
  | some (ci, _) => bif M.2.2.2.1 && Nat.blt M.1.length 999 then some (pc + 3, .ref M.1.length :: st, zpush (ci, 0, List.replicate (zN ci) 0) (zN ci) M) else none
  | none => none
def znewa (t : ArrayType) (pc : Nat) (st : List Value) (M : zMem) : Option (Nat × List Value × zMem) := match st with
  | .int n :: r => bif M.2.2.2.1 && Nat.blt M.1.length 999 && decide (¬ n < 0) && Nat.ble n.toNatClampNeg 10000 then match t with
      | .int => some (pc + 2, .ref M.1.length :: r, zpush (10, n.toNatClampNeg, []) n.toNatClampNeg M)
      | .byte => some (pc + 2, .ref M.1.length :: r, zpush (11, n.toNatClampNeg, []) n.toNatClampNeg M)
      | .long => some (pc + 2, .ref M.1.length :: r, zpush (14, n.toNatClampNeg, []) n.toNatClampNeg M)
      | _ => none
    else none
  | _ => none
def zanew (c idx pc : Nat) (st : List Value) (M : zMem) : Option (Nat × List Value × zMem) := match st with
  | .int n :: r => match (zcp c).lookup idx with
    | some (ci, _) => bif M.2.2.2.1 && Nat.blt M.1.length 999 && decide (¬ n < 0) && Nat.ble n.toNatClampNeg 10000 then match ci with
      | 1 => some (pc + 3, .ref M.1.length :: r, zpush (12, n.toNatClampNeg, List.replicate n.toNatClampNeg 0) n.toNatClampNeg M)
      | 6 => some (pc + 3, .ref M.1.length :: r, zpush (13, n.toNatClampNeg, List.replicate n.toNatClampNeg 0) n.toNatClampNeg M)
      | _ => none
      else none
    | none => none
  | _ => none
def zgets (c idx pc : Nat) (st : List Value) (M : zMem) : Option (Nat × List Value × zMem) := match (zgp c).lookup idx with
  | some (sid, _, _) => some (pc + 3, .ref (1000 + sid) :: st, M)
  | none => none
def zoin (c idx pc : Nat) (st : List Value) (M : zMem) : Option (Nat × List Value × zMem) := match (zmp c).lookup idx with
  | some (4, _, _) => match st with
    | .ref _ :: r => bif Nat.ble ((r.map fun v => v.category).sum) 8 then some (pc + 3, r, M) else none
    | _ => none
  | _ => none
def zacp (c idx pc : Nat) (st : List Value) (M : zMem) : Option (Nat × List Value × zMem) := match (zmp c).lookup idx with
  | some (5, _, _) => match st with
    | .int n :: .int dp :: .ref a1 :: .int sp :: .ref a0 :: r => match M.1[a0]?, M.1[a1]? with
      | some (k0, n0, _), some (k1, n1, _) => bif k0 == 10 && k1 == 10 && decide (¬ sp < 0) && decide (¬ dp < 0) && decide (¬ n < 0) && Nat.ble (sp.toNatClampNeg + n.toNatClampNeg) n0 && Nat.ble (dp.toNatClampNeg + n.toNatClampNeg) n1 && Nat.ble ((r.map fun v => v.category).sum) 8 then
          some (pc + 3, r, (M.1, (fun i => if i = a1 then va_cpy (M.2.1 a0) (M.2.1 a1) sp.toNatClampNeg dp.toNatClampNeg n.toNatClampNeg else M.2.1 i), M.2.2))
        else none
      | _, _ => none
    | _ => none
  | _ => none
def zS (σ : Nat → Nat × (Nat → Int32)) (c : Nat) (ini : Bool) (i : Instr) (pc : Nat) (st : List Value) (M : zMem) : Option (Nat × List Value × zMem) := match i with
  | .getfield idx => zgetf c idx pc st M
  | .putfield idx => zputf c ini idx pc st M
  | .iaload => ziald σ pc st M
  | .baload => zbald pc st M
  | .laload => zlald pc st M
  | .aaload => zaald pc st M
  | .iastore => ziast pc st M
  | .bastore => zbast pc st M
  | .lastore => zlast pc st M
  | .aastore => zaast pc st M
  | .arraylength => zalen σ pc st M
  | .new idx => znew c idx pc st M
  | .newarray t => znewa t pc st M
  | .anewarray idx => zanew c idx pc st M
  | .getstatic idx => zgets c idx pc st M
  | .invokespecial idx => zoin c idx pc st M
  | .invokestatic idx => zacp c idx pc st M
  | _ => none
end
section
/-- words that stay, each by a law of its own -/
def zNs : List Cond := [(Cond.methodLinkNest "ElidedLocks" (11 : Nat) ({ cls := "ElidedLocks$Machine", name := "<init>", desc := "()V" } : MethodName) "ElidedLocks"),
  (Cond.methodLinkNest "ElidedLocks$Machine" (32 : Nat) ({ cls := "ElidedLocks$Strand", name := "<init>", desc := "()V" } : MethodName) "ElidedLocks"),
  (Cond.methodLinkNest "ElidedLocks$Strand" (23 : Nat) ({ cls := "ElidedLocks$Guess", name := "<init>", desc := "()V" } : MethodName) "ElidedLocks"),
  (Cond.methodLinkNest "ElidedLocks$Machine" (52 : Nat) ({ cls := "ElidedLocks$Log", name := "<init>", desc := "()V" } : MethodName) "ElidedLocks"),
  (Cond.methodLinkNest "ElidedLocks" (41 : Nat) ({ cls := "ElidedLocks$Writer", name := "<init>", desc := "()V" } : MethodName) "ElidedLocks"),
  (Cond.fieldLinkNest "ElidedLocks$Reader" (77 : Nat) "ElidedLocks" "TERM_LEAST" "[I" "ElidedLocks"),
  (Cond.fieldLinkNest "ElidedLocks$Reader" (80 : Nat) "ElidedLocks" "TERM_MOST" "[I" "ElidedLocks"),
  (Cond.fieldLinkNest "ElidedLocks$Reader" (124 : Nat) "ElidedLocks" "DEED_LEAST" "[I" "ElidedLocks"),
  (Cond.fieldLinkNest "ElidedLocks$Reader" (127 : Nat) "ElidedLocks" "DEED_MOST" "[I" "ElidedLocks"),
  (Cond.castable "java/lang/IllegalArgumentException" "java/lang/IllegalArgumentException"),
  (Cond.castable "java/lang/UnsupportedOperationException" "java/lang/UnsupportedOperationException"),
  (Cond.castable "java/lang/IndexOutOfBoundsException" "java/lang/IndexOutOfBoundsException"),
  (Cond.castable "java/util/NoSuchElementException" "java/util/NoSuchElementException"),
  (Cond.castable "java/lang/IllegalStateException" "java/lang/IllegalStateException"),
  (Cond.castable "ElidedLocks" "java/lang/Object"),
  (Cond.castable "ElidedLocks$Machine" "java/lang/Object"),
  (Cond.castable "ElidedLocks$Lock" "java/lang/Object"),
  (Cond.castable "ElidedLocks$Strand" "java/lang/Object"),
  (Cond.castable "ElidedLocks$Guess" "java/lang/Object"),
  (Cond.castable "ElidedLocks$Log" "java/lang/Object"),
  (Cond.castable "ElidedLocks$Reader" "java/lang/Object"),
  (Cond.castable "ElidedLocks$Writer" "java/lang/Object"),
  (Cond.castable "ElidedLocks$Orders" "java/lang/Object"),
  (Cond.castable "ElidedLocksModel" "java/lang/Object"),
  (Cond.castable "java/lang/IllegalArgumentException" "java/lang/Object"),
  (Cond.castable "java/lang/UnsupportedOperationException" "java/lang/Object"),
  (Cond.castable "java/lang/IndexOutOfBoundsException" "java/lang/Object"),
  (Cond.castable "java/util/NoSuchElementException" "java/lang/Object"),
  (Cond.castable "java/lang/IllegalStateException" "java/lang/Object"),
  (Cond.castable "java/lang/Throwable" "java/lang/Object"),
  (Cond.castable "java/lang/String" "java/lang/Object")]
def zNp : List Nat := [142, 181, 187, 287, 391, 868, 870, 887, 889, 901, 970, 999, 1021, 1121, 1826, 1827, 1828, 1829, 1830, 1831, 1832, 1833, 1834, 1835, 1836, 1837, 1838, 1839, 1840, 1841, 1842]
theorem zNs_ok : zNs = zNp.filterMap (fun i => lw_tbl[i]?) := by decide +kernel
theorem zNs_in : ∀ w ∈ zNs, w ∈ lw_tbl := fun w h => by
  rw [zNs_ok] at h
  obtain ⟨i, -, hi⟩ := List.mem_filterMap.mp h
  exact List.mem_of_getElem? hi
def zsn : Nat → String := fun k => match k with
  | 0 => "TERM_LEAST"
  | 1 => "TERM_MOST"
  | 2 => "DEED_LEAST"
  | _ => "DEED_MOST"
theorem zNs_tab : ∀ w ∈ zNs, w.onTables = true := by decide +kernel
def zNk (w : Cond) : Bool := match w with
  | .methodLinkNest .. => true
  | .fieldLinkNest .. => true
  | .castable .. => true
  | _ => false
theorem zNs_warm {s U : State} (hW : s.WarmedH U.vm) (h : ∀ w ∈ zNs, va_Nw w s) : ∀ w ∈ zNs, va_Nw w U := by
  intro w hw
  have h1 := h w hw
  have h2 : zNk w = true := List.all_eq_true.mp (show zNs.all zNk = true by decide +kernel) w hw
  cases w
  case methodLinkNest a b c d => exact va_Nw.warmM hW h1
  case fieldLinkNest a b c d e f => exact va_Nw.warmF hW h1
  case castable a b => exact va_Nw.warmC hW h1
  all_goals cases h2
def zEnv (G : zG) (σ : Nat → Nat × (Nat → Int32)) (U : State) : Prop :=
  vx_Zq Bundle.tN "UNASSIGNED_STACK" Bundle.steD (zA G) U U.heap ∧ vx_Zq Bundle.tN "SUPPRESSED_SENTINEL" Bundle.listD (zA G) U U.heap ∧
  (∀ (n : Nat) (q : Nat × Nat × String × Nat), zstr[n]? = some q → vk_R (zcn q.1) q.2.1 q.2.2.1 (G.2.2.2 (10 + n)) U) ∧
  (∀ w ∈ zNs, va_Nw w U) ∧
  (∀ k, k < 4 → va_Z "ElidedLocks" (zsn k) "[I" (.ref (G.2.2.2 (1 + k))) (zA G) U U.heap) ∧
  (∀ j, j < 5 → G.2.2.2 j < G.2.2.1 ∧ va_X (G.2.2.2 j) (σ j).1 (σ j).2 U U.heap) ∧
  (va_AO "ElidedLocks$Lock" U ∧ va_AO "ElidedLocks$Strand" U)
/-- the surroundings, later in the same method or at a callee's entry -/
theorem zEnv.go {G : zG} {σ : Nat → Nat × (Nat → Int32)} {s U : State} (h : zEnv G σ s) (hW : s.WarmedH U.vm) (hb : G.2.2.1 ≤ s.heap.size) (hk : ∀ q : Nat, q < s.heap.size → ¬ zA G q → U.heap[q]? = s.heap[q]?) : zEnv G σ U := by
  obtain ⟨h1, h2, h3, h4, h5, h6, h7, h8⟩ := h
  refine ⟨vx_Zq.moved hW.alike (h1.kept hk), vx_Zq.moved hW.alike (h2.kept hk), fun n q hq => vk_R.warm hW (h3 n q hq), zNs_warm hW h4, fun k hk2 => va_Z.moved hW.alike ((h5 k hk2).kept hk), fun j hj => ⟨(h6 j hj).1, va_X.moved hW.alike ((h6 j hj).2.kept ?_)⟩, va_AO.moved hW.alike h7, va_AO.moved hW.alike h8⟩
  have hlt := (h6 j hj).1
  exact hk _ (Nat.lt_of_lt_of_le hlt hb) (Nat.not_le.mpr hlt)
theorem zfp_ok {c idx ci k pl : Nat} (h : (zfp c).lookup idx = some (ci, k, pl)) : ∃ q, vwCl[ci]? = some q ∧ k < q.2.2 ∧ Cond.fieldLink (zcn c) idx (q.2.1 k).1 (q.2.1 k).2.1 (q.2.1 k).2.2.1 ∈ zWs := by
  have hm := zlk_of (β := Unit) h
  have hc : c < 13 := by
    apply Nat.lt_of_not_le
    intro hc
    rw [zfp_ge hc] at hm
    cases hm
  have h2 := List.all_eq_true.mp zpck_ok c (List.mem_range.mpr hc)
  unfold zpck at h2
  simp only [Bool.and_eq_true] at h2
  have h3 := List.all_eq_true.mp h2.1.1 _ hm
  cases hq : vwCl[ci]? with
  | none => simp [hq] at h3
  | some q =>
    simp only [hq, Bool.and_eq_true, decide_eq_true_eq] at h3
    exact ⟨q, rfl, h3.1, List.mem_filter.mpr ⟨List.mem_of_getElem? h3.2, rfl⟩⟩
theorem zcp_ok {c idx ci pl : Nat} (h : (zcp c).lookup idx = some (ci, pl)) : ∃ q, vwCl[ci]? = some q ∧ Cond.classLink (zcn c) idx q.1 ∈ zWs := by
  have hm := zlk_of (β := Unit) h
  have hc : c < 13 := by
    apply Nat.lt_of_not_le
    intro hc
    rw [zcp_ge hc] at hm
    cases hm
  have h2 := List.all_eq_true.mp zpck_ok c (List.mem_range.mpr hc)
  unfold zpck at h2
  simp only [Bool.and_eq_true] at h2
  have h3 := List.all_eq_true.mp h2.1.2 _ hm
  cases hq : vwCl[ci]? with
  | none => simp [hq] at h3
  | some q =>
    simp only [hq, decide_eq_true_eq] at h3
    exact ⟨q, rfl, List.mem_filter.mpr ⟨List.mem_of_getElem? h3, rfl⟩⟩
theorem zmp_4 {c idx j pl : Nat} (h : (zmp c).lookup idx = some (4, j, pl)) : Cond.methodLink (zcn c) idx Lib.objectInit ∈ zWs := by
  have hm := zlk_of (β := Unit) h
  have hc : c < 13 := by
    apply Nat.lt_of_not_le
    intro hc
    rw [zmp_ge hc] at hm
    cases hm
  have h2 := List.all_eq_true.mp zpck_ok c (List.mem_range.mpr hc)
  unfold zpck at h2
  simp only [Bool.and_eq_true] at h2
  have h3 := List.all_eq_true.mp h2.2 _ hm
  exact List.mem_filter.mpr ⟨List.mem_of_getElem? (of_decide_eq_true h3), rfl⟩
theorem zmp_5 {c idx j pl : Nat} (h : (zmp c).lookup idx = some (5, j, pl)) : Cond.methodLink (zcn c) idx arraycopyName ∈ zWs := by
  have hm := zlk_of (β := Unit) h
  have hc : c < 13 := by
    apply Nat.lt_of_not_le
    intro hc
    rw [zmp_ge hc] at hm
    cases hm
  have h2 := List.all_eq_true.mp zpck_ok c (List.mem_range.mpr hc)
  unfold zpck at h2
  simp only [Bool.and_eq_true] at h2
  have h3 := List.all_eq_true.mp h2.2 _ hm
  exact List.mem_filter.mpr ⟨List.mem_of_getElem? (of_decide_eq_true h3), rfl⟩
def ztyk (t : Nat) (ty : FieldType) : Bool := match t, ty with | 0, .int => true | 1, .boolean => true | 2, .array _ => true | 2, .object _ => true | _, _ => false
theorem zcl_all {ci : Nat} {q : vw_C} (h : vwCl[ci]? = some q) : q.1 = zcn ci ∧ Cond.instantiable q.1 q.2.2 ∈ zWs ∧ Cond.initialized q.1 ∈ zWs ∧ (zft ci).length = q.2.2 ∧ zN ci = q.2.2 ∧ ∀ k, k < q.2.2 → (q.2.1 k).1 = q.1 ∧ ∃ t f, (zft ci)[k]? = some (t, f) ∧ (q.2.1 k).2.2.2 = f ∧ ztyk t (zty ci k) = true := by
  have h2 := List.all_eq_true.mp zcck_ok ci (List.mem_range.mpr (zcl_lt h))
  rw [h] at h2
  cases hr : zcpl[ci]? with
  | none => rw [hr] at h2; simp at h2
  | some r =>
    rw [hr] at h2
    simp only [Bool.and_eq_true, decide_eq_true_eq] at h2
    obtain ⟨⟨⟨⟨a1, a2⟩, a3⟩, a4⟩, a5⟩ := h2
    refine ⟨a1, List.mem_filter.mpr ⟨List.mem_of_getElem? a2, rfl⟩, List.mem_filter.mpr ⟨List.mem_of_getElem? a3, rfl⟩, a4, by unfold zN; rw [h], fun k hk => ?_⟩
    have h3 := List.all_eq_true.mp a5 k (List.mem_range.mpr hk)
    simp only [Bool.and_eq_true, decide_eq_true_eq] at h3
    refine ⟨h3.1, ?_⟩
    have h4 := h3.2
    cases hf : (zft ci)[k]? with
    | none => rw [hf] at h4; simp at h4
    | some x =>
      obtain ⟨t, f⟩ := x
      rw [hf] at h4
      simp only [Bool.and_eq_true, decide_eq_true_eq] at h4
      exact ⟨t, f, rfl, h4.1, h4.2⟩
theorem zcel_obj {G : zG} {m : Nat → Nat → Int32} {lf : Nat → Nat → Int64} {i ci n : Nat} {rs : List Nat} (h : ci < 10) : zcell G m lf i (ci, n, rs) = .inr (ci, (List.range (zN ci)).map (zfv G m i ci rs)) := by
  unfold zcell
  rw [if_pos h]
theorem zcell_m {G : zG} {m m' : Nat → Nat → Int32} {lf lf' : Nat → Nat → Int64} {i : Nat} {q : Nat × Nat × List Nat} (h : m' i = m i) (h2 : lf' i = lf i) : zcell G m' lf' i q = zcell G m lf i q := by
  have hf : zfv G m' i q.1 q.2.2 = zfv G m i q.1 q.2.2 := by
    funext k
    unfold zfv
    rw [h]
  unfold zcell
  rw [hf, h, h2]
theorem zcel_m {G : zG} {M M' : zMem} {i : Nat} (h0 : M'.1[i]? = M.1[i]?) (h : M'.2.1 i = M.2.1 i) (h2 : M'.2.2.1 i = M.2.2.1 i) : zcel G M' i = zcel G M i := by
  unfold zcel
  rw [List.getD_eq_getElem?_getD, List.getD_eq_getElem?_getD, h0]
  exact zcell_m h h2
end
section
section ZS
variable {p : Program} {l : Launch} {e : Env} {R : Room} {s : State} {m : MethodId} {args : Array Value} {below : List Frame} {meth : Method} {c : Code} {H : Heap} {locs : List Loc} {cells slots : Nat} {Q : State → Prop} {G : zG} {cc : ByteArray} {ls : Array Slot} {pc : Nat} {σ : Nat → Nat × (Nat → Int32)} {cn : Nat} {st st' : List Value} {pc' : Nat} {M M' : zMem}
/-- what stands at every instruction of a body -/
def zBd (p : Program) (s : State) (m : MethodId) (args : Array Value) (c : Code) (cc : ByteArray) (cn : Nat) (G : zG) (σ : Nat → Nat × (Nat → Int32)) : Prop :=
  p.tables.exec = Jvm.exec ∧ c.code = cc ∧ s.vm.findClass (zcn cn) = some m.cls ∧ (∀ w ∈ zWs, w.before args s = true) ∧ va_K G.1 vwCl (ztys G) s ∧ G.2.2.1 ≤ s.heap.size ∧ zEnv G σ s
abbrev zKt (p : Program) (l : Launch) (e : Env) (R : Room) (s : State) (m : MethodId) (args : Array Value) (below : List Frame) (meth : Method) (c : Code) (Q : State → Prop) (G : zG) (ls : Array Slot) (cells slots : Nat) (M : zMem) (pc' : Nat) (st' : List Value) (M' : zMem) : Prop :=
  ∀ (H' : Heap) (locs' : List Loc) (cells' slots' : Nat), cells' + M.2.2.2.2.1 = cells + M'.2.2.2.2.1 → slots' + M.2.2.2.2.2 = slots + M'.2.2.2.2.2 → zRel G M' H' → va_S (zA G) s.heap H' locs' → W p l e R s m args below meth c H' locs' cells' slots' Q (F0 m pc' ls (st'.map (zcv G)))
theorem zad_lt {G : zG} {i : Nat} (h : i < 1000) : zad G i = G.2.2.1 + i := by unfold zad; rw [if_pos h]
theorem zrel_lt {i : Nat} (hR : zRel G M H) (h : i < M.1.length) : i < 1000 := by
  have := hR.2
  omega
theorem zget_lt {q : Nat × Nat × List Nat} {i : Nat} (h : M.1[i]? = some q) : i < M.1.length := (List.getElem?_eq_some_iff.mp h).1
theorem zgetf_ok (B : zBd p s m args c cc cn G σ) {idx : Nat} (hd : decode cc pc = .ok (.getfield idx, 3)) (hR : zRel G M H) (hS : va_S (zA G) s.heap H locs) (h : zgetf cn idx pc st M = some (pc', st', M'))
    (k : zKt p l e R s m args below meth c Q G ls cells slots M pc' st' M') : W p l e R s m args below meth c H locs cells slots Q (F0 m pc ls (st.map (zcv G))) := by
  obtain ⟨hx, hb, hown, hts, hK, hbs, hE⟩ := B
  unfold zgetf at h
  split at h
  · rename_i ci kf pl hl
    split at h
    · rename_i a r
      split at h
      · rename_i kd n rs hM
        by_cases hc : kd = ci
        · subst hc
          rw [beq_self_eq_true, cond_true] at h
          obtain ⟨q, hq, hk, hlk⟩ := zfp_ok hl
          have hci := zcl_lt hq
          obtain ⟨a1, a2, a3, a4, a5, a6⟩ := zcl_all hq
          obtain ⟨b1, -⟩ := a6 kf hk
          have he : (zw G M)[a]? = some (zad G a, .inr (kd, (List.range (zN kd)).map (zfv G M.2.1 a kd rs))) := by rw [zw_get hM, zcel_obj hci]
          have hv := zfs_get (G := G) (m := M.2.1) (i := a) (kd := kd) (rs := rs) (k := kf) (by rw [a5]; exact hk)
          split at h
          · rename_i fl hf
            split at h
            · rename_i b hb2
              cases h
              refine va_get hx hb hts (zcl_in hq) hown hK hR.1 a he hq kf hk (hts _ hlk) (fun x hx => hx) (v := .ref (zad G b)) ?_ hd (k H locs cells slots rfl rfl hR hS)
              rw [hv]
              simp [zfv, hf, hb2, va_rf]
            · cases h
          · rename_i t hne hf
            cases h
            refine va_get hx hb hts (zcl_in hq) hown hK hR.1 a he hq kf hk (hts _ hlk) (fun x hx => hx) (v := .int (M.2.1 a kf)) ?_ hd (k H locs cells slots rfl rfl hR hS)
            rw [hv]
            unfold zfv
            rw [hf]
            split
            · rename_i z hz
              cases hz
              exact absurd rfl (hne _)
            · rfl
          · cases h
        · rw [show (kd == ci) = false by simp [hc], cond_false] at h
          cases h
      · cases h
    · cases h
  · cases h
theorem zbool_ok {x : Int32} (h : x = 0 ∨ x = 1) : narrow .boolean (.int x) = .int x ∧ fits .boolean (.int x) = true := by
  rcases h with rfl | rfl <;> exact ⟨by decide, by decide⟩
theorem zm2_ne {m : Nat → Nat → Int32} {a k i : Nat} {x : Int32} (h : i ≠ a) : zm2 m a k x i = m i := by unfold zm2; rw [if_neg h]
theorem zm2_eq {m : Nat → Nat → Int32} {a k : Nat} {x : Int32} : zm2 m a k x a = upd (m a) k x := by unfold zm2; rw [if_pos rfl]
theorem ztyk_0 {ty : FieldType} (h : ztyk 0 ty = true) : ty = .int := by cases ty <;> first | rfl | (simp [ztyk] at h)
theorem ztyk_1 {ty : FieldType} (h : ztyk 1 ty = true) : ty = .boolean := by cases ty <;> first | rfl | (simp [ztyk] at h)
theorem ztyk_2 {ty : FieldType} (h : ztyk 2 ty = true) (a : Nat) : narrow ty (.ref a) = .ref a ∧ fits ty (.ref a) = true := by cases ty <;> first | exact ⟨rfl, rfl⟩ | (simp [ztyk] at h)
theorem zputI_ok (B : zBd p s m args c cc cn G σ) {idx ci kf pl a n : Nat} {rs : List Nat} {x : Int32} {r : List Value} (hd : decode cc pc = .ok (.putfield idx, 3)) (hR : zRel G M H) (hS : va_S (zA G) s.heap H locs) (hl : (zfp cn).lookup idx = some (ci, kf, pl)) (hM : M.1[a]? = some (ci, n, rs)) {t : Nat} (hf : (zft ci)[kf]? = some (t, false)) (hx0 : t = 0 ∨ (t = 1 ∧ (x = 0 ∨ x = 1)))
    (k : zKt p l e R s m args below meth c Q G ls cells slots M (pc + 3) r (M.1, zm2 M.2.1 a kf x, M.2.2)) : W p l e R s m args below meth c H locs cells slots Q (F0 m pc ls ((.int x :: .ref a :: r : List Value).map (zcv G))) := by
  obtain ⟨hx, hb, hown, hts, hK, hbs, hE⟩ := B
  obtain ⟨q, hq, hk, hlk⟩ := zfp_ok hl
  have hci := zcl_lt hq
  obtain ⟨a1, a2, a3, a4, a5, a6⟩ := zcl_all hq
  obtain ⟨b1, t', f', b2, b3, b4⟩ := a6 kf hk
  rw [hf] at b2
  cases b2
  have he : (zw G M)[a]? = some (zad G a, .inr (ci, (List.range (zN ci)).map (zfv G M.2.1 a ci rs))) := by rw [zw_get hM, zcel_obj hci]
  have hty := zcl_ty hq kf hk
  have hnf : narrow (zty ci kf) (.int x) = .int x ∧ fits (zty ci kf) (.int x) = true := by
    rcases hx0 with rfl | ⟨rfl, hx1⟩
    · rw [ztyk_0 b4]; exact ⟨rfl, rfl⟩
    · rw [ztyk_1 b4]; exact zbool_ok hx1
  have ht2 : t ≠ 2 := by rcases hx0 with h | h <;> omega
  refine va_put hx hb hts (zcl_in hq) (zty ci) (zcl_ty hq) (zcl_nm hq) hown hK hR.1 (zw_D G M hR.2) hS a he hq kf hk (hts _ hlk) (fun x hx => hx) b3 hty hnf.1 hnf.2 (by simp [a5, hk]) hd (fun H1 locs1 hP1 hD1 hS1 => ?_)
  refine k H1 locs1 cells slots rfl rfl ⟨?_, hR.2⟩ hS1
  have e1 : (zw G M).set a (zad G a, .inr (ci, ((List.range (zN ci)).map (zfv G M.2.1 a ci rs)).set kf (.int x))) = zw G (M.1, zm2 M.2.1 a kf x, M.2.2) := by
    refine zw_set rfl ?_ (fun j hj => ?_)
    · rw [zcel_eq (M := (M.1, zm2 M.2.1 a kf x, M.2.2)) hM, zcel_obj hci]
      refine congrArg (fun z => (Sum.inr (ci, z) : va_E)) (zfs_set ?_ (fun j hj => ?_)).symm
      · unfold zfv
        rw [hf]
        split
        · rename_i z hz; cases hz; exact absurd rfl ht2
        · show Value.int (zm2 M.2.1 a kf x a kf) = _
          rw [zm2_eq]; simp [upd]
      · unfold zfv
        split
        · rfl
        · show Value.int (zm2 M.2.1 a kf x a j) = _
          rw [zm2_eq]; simp [upd, hj]
    · exact zcel_m rfl (zm2_ne hj) rfl
  rw [← e1]; exact hP1
theorem zputR_ok (B : zBd p s m args c cc cn G σ) (hin : meth.name = "<init>") {idx kf pl a n b : Nat} {rs : List Nat} {r : List Value} (hd : decode cc pc = .ok (.putfield idx, 3)) (hR : zRel G M H) (hS : va_S (zA G) s.heap H locs) (hl : (zfp cn).lookup idx = some (cn, kf, pl)) (hM : M.1[a]? = some (cn, n, rs)) (hrs : kf < rs.length) (hf : (zft cn)[kf]? = some (2, true))
    (k : zKt p l e R s m args below meth c Q G ls cells slots M (pc + 3) r (M.1.set a (cn, n, rs.set kf (b + 1)), M.2)) : W p l e R s m args below meth c H locs cells slots Q (F0 m pc ls ((.ref b :: .ref a :: r : List Value).map (zcv G))) := by
  obtain ⟨hx, hb, hown, hts, hK, hbs, hE⟩ := B
  obtain ⟨q, hq, hk, hlk⟩ := zfp_ok hl
  have hci := zcl_lt hq
  obtain ⟨a1, a2, a3, a4, a5, a6⟩ := zcl_all hq
  obtain ⟨b1, t', f', b2, b3, b4⟩ := a6 kf hk
  rw [hf] at b2
  cases b2
  have he : (zw G M)[a]? = some (zad G a, .inr (cn, (List.range (zN cn)).map (zfv G M.2.1 a cn rs))) := by rw [zw_get hM, zcel_obj hci]
  have hty := zcl_ty hq kf hk
  have hnf := ztyk_2 b4 (zad G b)
  have ha := zget_lt hM
  refine va_putF hx hb hts (zcl_in hq) (zty cn) (zcl_ty hq) (zcl_nm hq) hown hK hR.1 (zw_D G M hR.2) hS a he hq kf hk (hts _ hlk) (fun x hx => hx) b3 hin (b1.trans a1) hty hnf.1 hnf.2 (by simp [a5, hk]) hd (fun H1 locs1 hP1 hD1 hS1 => ?_)
  refine k H1 locs1 cells slots rfl rfl ⟨?_, by rw [List.length_set]; exact hR.2⟩ hS1
  have hM' : (M.1.set a (cn, n, rs.set kf (b + 1)))[a]? = some (cn, n, rs.set kf (b + 1)) := by rw [List.getElem?_set, if_pos rfl, if_pos ha]
  have e1 : (zw G M).set a (zad G a, .inr (cn, ((List.range (zN cn)).map (zfv G M.2.1 a cn rs)).set kf (.ref (zad G b)))) = zw G (M.1.set a (cn, n, rs.set kf (b + 1)), M.2) := by
    refine zw_set (by simp) ?_ (fun j hj => ?_)
    · rw [zcel_eq (M := (M.1.set a (cn, n, rs.set kf (b + 1)), M.2)) hM', zcel_obj hci]
      refine congrArg (fun z => (Sum.inr (cn, z) : va_E)) (zfs_set ?_ (fun j hj => ?_)).symm
      · unfold zfv
        rw [hf]
        simp [zrv, hrs, va_rf]
      · unfold zfv
        split
        · have : zrv (rs.set kf (b + 1)) j = zrv rs j := by unfold zrv; rw [List.getElem?_set, if_neg (fun e => hj e.symm)]
          rw [this]
        · rfl
    · exact zcel_m (by show (M.1.set a _)[j]? = _; rw [List.getElem?_set, if_neg (fun e => hj e.symm)]) rfl rfl
  rw [← e1]; exact hP1
theorem zputf_ok (B : zBd p s m args c cc cn G σ) {ini : Bool} (hin : ini = true → meth.name = "<init>") {idx : Nat} (hd : decode cc pc = .ok (.putfield idx, 3)) (hR : zRel G M H) (hS : va_S (zA G) s.heap H locs) (h : zputf cn ini idx pc st M = some (pc', st', M'))
    (k : zKt p l e R s m args below meth c Q G ls cells slots M pc' st' M') : W p l e R s m args below meth c H locs cells slots Q (F0 m pc ls (st.map (zcv G))) := by
  unfold zputf at h
  split at h
  · rename_i ci kf pl hl
    split at h
    · rename_i x a r
      split at h
      · rename_i kd n rs hM
        by_cases hc : kd = ci
        · subst hc
          rw [beq_self_eq_true, cond_true] at h
          split at h
          · rename_i hf
            cases h
            exact zputI_ok B hd hR hS hl hM hf (Or.inl rfl) k
          · rename_i hf
            split at h
            · rename_i h01
              cases h
              exact zputI_ok B hd hR hS hl hM hf (Or.inr ⟨rfl, h01⟩) k
            · cases h
          · cases h
        · rw [show (kd == ci) = false by simp [hc], cond_false] at h
          cases h
      · cases h
    · rename_i b a r
      split at h
      · rename_i kd n rs hM
        by_cases hc : (kd == ci && ini && ci == cn && decide (kf < rs.length)) = true
        · rw [hc, cond_true] at h
          simp only [Bool.and_eq_true, beq_iff_eq, decide_eq_true_eq] at hc
          obtain ⟨⟨⟨c1, c2⟩, c3⟩, c4⟩ := hc
          subst c1
          subst c3
          split at h
          · rename_i hf
            cases h
            exact zputR_ok B (hin c2) hd hR hS hl hM c4 hf k
          · cases h
        · rw [Bool.eq_false_iff.mpr hc, cond_false] at h
          cases h
      · cases h
    · cases h
  · cases h
end ZS
end
section
section ZT
variable {p : Program} {l : Launch} {e : Env} {R : Room} {s : State} {m : MethodId} {args : Array Value} {below : List Frame} {meth : Method} {c : Code} {H : Heap} {locs : List Loc} {cells slots : Nat} {Q : State → Prop} {G : zG} {cc : ByteArray} {ls : Array Slot} {pc : Nat} {σ : Nat → Nat × (Nat → Int32)} {cn : Nat} {st st' : List Value} {pc' : Nat} {M M' : zMem}
theorem zcell_10 {G : zG} {m : Nat → Nat → Int32} {lf : Nat → Nat → Int64} {i n : Nat} {rs : List Nat} : zcell G m lf i (10, n, rs) = .inl (G.2.1 0, n, .inl (m i)) := rfl
theorem zcell_11 {G : zG} {m : Nat → Nat → Int32} {lf : Nat → Nat → Int64} {i n : Nat} {rs : List Nat} : zcell G m lf i (11, n, rs) = .inl (G.2.1 1, n, .inl (m i)) := rfl
theorem zcell_12 {G : zG} {m : Nat → Nat → Int32} {lf : Nat → Nat → Int64} {i n : Nat} {rs : List Nat} : zcell G m lf i (12, n, rs) = .inl (G.2.1 2, n, .inr (.inr (.inr (.inr (fun k => (zrv rs k).map (zad G)))))) := rfl
theorem zcell_13 {G : zG} {m : Nat → Nat → Int32} {lf : Nat → Nat → Int64} {i n : Nat} {rs : List Nat} : zcell G m lf i (13, n, rs) = .inl (G.2.1 3, n, .inr (.inr (.inr (.inr (fun k => (zrv rs k).map (zad G)))))) := rfl
theorem zcell_14 {G : zG} {m : Nat → Nat → Int32} {lf : Nat → Nat → Int64} {i n : Nat} {rs : List Nat} : zcell G m lf i (14, n, rs) = .inl (G.2.1 4, n, .inr (.inl (lf i))) := rfl
theorem zt_b {a b : Bool} (h : (a && !b) = true) : a = true ∧ b = false := by cases a <;> cases b <;> simp_all
theorem zblt {a b : Nat} (h : Nat.blt a b = true) : a < b := by simpa [Nat.blt_eq] using h
theorem zblt_f {a b : Nat} (h : Nat.blt a b = false) : b ≤ a := by
  apply Nat.le_of_not_lt
  intro h2
  rw [Nat.blt_eq.mpr h2] at h
  cases h
theorem zble {a b : Nat} (h : Nat.ble a b = true) : a ≤ b := Nat.le_of_ble_eq_true h
theorem ziald_ok (B : zBd p s m args c cc cn G σ) (hd : decode cc pc = .ok (.iaload, 1)) (hR : zRel G M H) (hS : va_S (zA G) s.heap H locs) (h : ziald σ pc st M = some (pc', st', M'))
    (k : zKt p l e R s m args below meth c Q G ls cells slots M pc' st' M') : W p l e R s m args below meth c H locs cells slots Q (F0 m pc ls (st.map (zcv G))) := by
  obtain ⟨hx, hb, hown, hts, hK, hbs, hE⟩ := B
  unfold ziald at h
  split at h
  · rename_i i a r
    cases ha : Nat.blt a 1000 with
    | true =>
      rw [ha, cond_true] at h
      split at h
      · rename_i kd n rs hM
        cases hc : (kd == 10 && !zoutB i n) with
        | false => rw [hc, cond_false] at h; cases h
        | true =>
          rw [hc, cond_true] at h
          cases h
          obtain ⟨c1, c2⟩ := zt_b hc
          rw [beq_iff_eq] at c1
          subst c1
          have he : (zw G M)[a]? = some (zad G a, .inl (G.2.1 0, n, .inl (M.2.1 a))) := by rw [zw_get hM, zcell_10]
          exact va_iald hx hb hK hR.1 a 0 he rfl (zoutB_f c2) hd (k H locs cells slots rfl rfl hR hS)
      · cases h
    | false =>
      rw [ha, cond_false] at h
      cases hc : (Nat.blt a 1005 && !zoutB i (σ (a - 1000)).1) with
      | false => rw [hc, cond_false] at h; cases h
      | true =>
        rw [hc, cond_true] at h
        cases h
        obtain ⟨c1, c2⟩ := zt_b hc
        have hlt := zblt c1
        have hge := zblt_f ha
        obtain ⟨e1, e2⟩ := hE.2.2.2.2.2.1 (a - 1000) (by omega)
        have hz : zad G a = G.2.2.2 (a - 1000) := by unfold zad; rw [if_neg (by omega)]
        show W p l e R s m args below meth c H locs cells slots Q (F0 m pc ls (.int i :: .ref (zad G a) :: r.map (zcv G)))
        rw [hz]
        exact va_sld hx hb e2 (Nat.lt_of_lt_of_le e1 hbs) (Nat.not_le.mpr e1) hS (zoutB_f c2) hd (k H locs cells slots rfl rfl hR hS)
  · cases h
theorem zbald_ok (B : zBd p s m args c cc cn G σ) (hd : decode cc pc = .ok (.baload, 1)) (hR : zRel G M H) (hS : va_S (zA G) s.heap H locs) (h : zbald pc st M = some (pc', st', M'))
    (k : zKt p l e R s m args below meth c Q G ls cells slots M pc' st' M') : W p l e R s m args below meth c H locs cells slots Q (F0 m pc ls (st.map (zcv G))) := by
  obtain ⟨hx, hb, hown, hts, hK, hbs, hE⟩ := B
  unfold zbald at h
  split at h
  · rename_i i a r
    split at h
    · rename_i kd n rs hM
      cases hc : (kd == 11 && !zoutB i n) with
      | false => rw [hc, cond_false] at h; cases h
      | true =>
        rw [hc, cond_true] at h
        cases h
        obtain ⟨c1, c2⟩ := zt_b hc
        rw [beq_iff_eq] at c1
        subst c1
        have he : (zw G M)[a]? = some (zad G a, .inl (G.2.1 1, n, .inl (M.2.1 a))) := by rw [zw_get hM, zcell_11]
        exact va_bald hx hb hK hR.1 a 1 he rfl (zoutB_f c2) hd (k H locs cells slots rfl rfl hR hS)
    · cases h
  · cases h
theorem zlald_ok (B : zBd p s m args c cc cn G σ) (hd : decode cc pc = .ok (.laload, 1)) (hR : zRel G M H) (hS : va_S (zA G) s.heap H locs) (h : zlald pc st M = some (pc', st', M'))
    (k : zKt p l e R s m args below meth c Q G ls cells slots M pc' st' M') : W p l e R s m args below meth c H locs cells slots Q (F0 m pc ls (st.map (zcv G))) := by
  obtain ⟨hx, hb, hown, hts, hK, hbs, hE⟩ := B
  unfold zlald at h
  split at h
  · rename_i i a r
    split at h
    · rename_i kd n rs hM
      cases hc : (kd == 14 && !zoutB i n) with
      | false => rw [hc, cond_false] at h; cases h
      | true =>
        rw [hc, cond_true] at h
        cases h
        obtain ⟨c1, c2⟩ := zt_b hc
        rw [beq_iff_eq] at c1
        subst c1
        have he : (zw G M)[a]? = some (zad G a, .inl (G.2.1 4, n, .inr (.inl (M.2.2.1 a)))) := by rw [zw_get hM, zcell_14]
        exact va_lald hx hb hK hR.1 a 4 he rfl (zoutB_f c2) hd (k H locs cells slots rfl rfl hR hS)
    · cases h
  · cases h
theorem zaald_ok (B : zBd p s m args c cc cn G σ) (hd : decode cc pc = .ok (.aaload, 1)) (hR : zRel G M H) (hS : va_S (zA G) s.heap H locs) (h : zaald pc st M = some (pc', st', M'))
    (k : zKt p l e R s m args below meth c Q G ls cells slots M pc' st' M') : W p l e R s m args below meth c H locs cells slots Q (F0 m pc ls (st.map (zcv G))) := by
  obtain ⟨hx, hb, hown, hts, hK, hbs, hE⟩ := B
  unfold zaald at h
  split at h
  · rename_i i a r
    split at h
    · rename_i kd n rs hM
      cases hc : ((kd == 12 || kd == 13) && !zoutB i n) with
      | false => rw [hc, cond_false] at h; cases h
      | true =>
        rw [hc, cond_true] at h
        obtain ⟨c1, c2⟩ := zt_b hc
        split at h
        · rename_i b hb2
          cases h
          rw [Bool.or_eq_true, beq_iff_eq, beq_iff_eq] at c1
          rcases c1 with rfl | rfl
          · have he : (zw G M)[a]? = some (zad G a, .inl (G.2.1 2, n, .inr (.inr (.inr (.inr (fun k => (zrv rs k).map (zad G))))))) := by rw [zw_get hM, zcell_12]
            refine va_aldq hx hb hK hR.1 a 2 he rfl (zoutB_f c2) hd ?_
            rw [hb2]
            exact k H locs cells slots rfl rfl hR hS
          · have he : (zw G M)[a]? = some (zad G a, .inl (G.2.1 3, n, .inr (.inr (.inr (.inr (fun k => (zrv rs k).map (zad G))))))) := by rw [zw_get hM, zcell_13]
            refine va_aldq hx hb hK hR.1 a 3 he rfl (zoutB_f c2) hd ?_
            rw [hb2]
            exact k H locs cells slots rfl rfl hR hS
        · cases h
    · cases h
  · cases h
theorem ziast_ok (B : zBd p s m args c cc cn G σ) (hd : decode cc pc = .ok (.iastore, 1)) (hR : zRel G M H) (hS : va_S (zA G) s.heap H locs) (h : ziast pc st M = some (pc', st', M'))
    (k : zKt p l e R s m args below meth c Q G ls cells slots M pc' st' M') : W p l e R s m args below meth c H locs cells slots Q (F0 m pc ls (st.map (zcv G))) := by
  obtain ⟨hx, hb, hown, hts, hK, hbs, hE⟩ := B
  unfold ziast at h
  split at h
  · rename_i x i a r
    split at h
    · rename_i kd n rs hM
      cases hc : (kd == 10 && !zoutB i n) with
      | false => rw [hc, cond_false] at h; cases h
      | true =>
        rw [hc, cond_true] at h
        cases h
        obtain ⟨c1, c2⟩ := zt_b hc
        rw [beq_iff_eq] at c1
        subst c1
        have he : (zw G M)[a]? = some (zad G a, .inl (G.2.1 0, n, .inl (M.2.1 a))) := by rw [zw_get hM, zcell_10]
        refine va_iast hx hb hK hR.1 (zw_D G M hR.2) hS a 0 he rfl (zoutB_f c2) hd (fun H1 locs1 hP1 hD1 hS1 => ?_)
        refine k H1 locs1 cells slots rfl rfl ⟨?_, hR.2⟩ hS1
        have e1 : (zw G M).set a (zad G a, .inl (G.2.1 0, n, .inl (upd (M.2.1 a) i.toNatClampNeg x))) = zw G (M.1, zm2 M.2.1 a i.toNatClampNeg x, M.2.2) := by
          refine zw_set rfl ?_ (fun j hj => zcel_m rfl (zm2_ne hj) rfl)
          rw [zcel_eq (M := (M.1, zm2 M.2.1 a i.toNatClampNeg x, M.2.2)) hM, zcell_10]
          exact congrArg (fun z => (Sum.inl (G.2.1 0, n, .inl z) : va_E)) zm2_eq
        rw [← e1]; exact hP1
    · cases h
  · cases h
theorem zbast_ok (B : zBd p s m args c cc cn G σ) (hd : decode cc pc = .ok (.bastore, 1)) (hR : zRel G M H) (hS : va_S (zA G) s.heap H locs) (h : zbast pc st M = some (pc', st', M'))
    (k : zKt p l e R s m args below meth c Q G ls cells slots M pc' st' M') : W p l e R s m args below meth c H locs cells slots Q (F0 m pc ls (st.map (zcv G))) := by
  obtain ⟨hx, hb, hown, hts, hK, hbs, hE⟩ := B
  unfold zbast at h
  split at h
  · rename_i x i a r
    split at h
    · rename_i kd n rs hM
      cases hc : (kd == 11 && !zoutB i n) with
      | false => rw [hc, cond_false] at h; cases h
      | true =>
        rw [hc, cond_true] at h
        cases h
        obtain ⟨c1, c2⟩ := zt_b hc
        rw [beq_iff_eq] at c1
        subst c1
        have he : (zw G M)[a]? = some (zad G a, .inl (G.2.1 1, n, .inl (M.2.1 a))) := by rw [zw_get hM, zcell_11]
        refine va_bast hx hb hK hR.1 (zw_D G M hR.2) hS a 1 he rfl (zoutB_f c2) hd (fun H1 locs1 hP1 hD1 hS1 => ?_)
        refine k H1 locs1 cells slots rfl rfl ⟨?_, hR.2⟩ hS1
        have e1 : (zw G M).set a (zad G a, .inl (G.2.1 1, n, .inl (upd (M.2.1 a) i.toNatClampNeg (vp_nar .byte x)))) = zw G (M.1, zm2 M.2.1 a i.toNatClampNeg (vp_nar .byte x), M.2.2) := by
          refine zw_set rfl ?_ (fun j hj => zcel_m rfl (zm2_ne hj) rfl)
          rw [zcel_eq (M := (M.1, zm2 M.2.1 a i.toNatClampNeg (vp_nar .byte x), M.2.2)) hM, zcell_11]
          exact congrArg (fun z => (Sum.inl (G.2.1 1, n, .inl z) : va_E)) zm2_eq
        rw [← e1]; exact hP1
    · cases h
  · cases h
theorem zlast_ok (B : zBd p s m args c cc cn G σ) (hd : decode cc pc = .ok (.lastore, 1)) (hR : zRel G M H) (hS : va_S (zA G) s.heap H locs) (h : zlast pc st M = some (pc', st', M'))
    (k : zKt p l e R s m args below meth c Q G ls cells slots M pc' st' M') : W p l e R s m args below meth c H locs cells slots Q (F0 m pc ls (st.map (zcv G))) := by
  obtain ⟨hx, hb, hown, hts, hK, hbs, hE⟩ := B
  unfold zlast at h
  split at h
  · rename_i x i a r
    split at h
    · rename_i kd n rs hM
      cases hc : (kd == 14 && !zoutB i n) with
      | false => rw [hc, cond_false] at h; cases h
      | true =>
        rw [hc, cond_true] at h
        cases h
        obtain ⟨c1, c2⟩ := zt_b hc
        rw [beq_iff_eq] at c1
        subst c1
        have he : (zw G M)[a]? = some (zad G a, .inl (G.2.1 4, n, .inr (.inl (M.2.2.1 a)))) := by rw [zw_get hM, zcell_14]
        refine va_last hx hb hK hR.1 (zw_D G M hR.2) hS a 4 he rfl (zoutB_f c2) hd (fun H1 locs1 hP1 hD1 hS1 => ?_)
        refine k H1 locs1 cells slots rfl rfl ⟨?_, hR.2⟩ hS1
        have e1 : (zw G M).set a (zad G a, .inl (G.2.1 4, n, .inr (.inl (vp_updL (M.2.2.1 a) i.toNatClampNeg x)))) = zw G (M.1, M.2.1, zl2 M.2.2.1 a i.toNatClampNeg x, M.2.2.2) := by
          refine zw_set rfl ?_ (fun j hj => zcel_m rfl rfl (by show zl2 M.2.2.1 a _ x j = _; unfold zl2; rw [if_neg hj]))
          rw [zcel_eq (M := (M.1, M.2.1, zl2 M.2.2.1 a i.toNatClampNeg x, M.2.2.2)) hM, zcell_14]
          show (Sum.inl (G.2.1 4, n, .inr (.inl (zl2 M.2.2.1 a i.toNatClampNeg x a))) : va_E) = _
          unfold zl2; rw [if_pos rfl]
        rw [← e1]; exact hP1
    · cases h
  · cases h
theorem zaast_ok (B : zBd p s m args c cc cn G σ) (hd : decode cc pc = .ok (.aastore, 1)) (hR : zRel G M H) (hS : va_S (zA G) s.heap H locs) (h : zaast pc st M = some (pc', st', M'))
    (k : zKt p l e R s m args below meth c Q G ls cells slots M pc' st' M') : W p l e R s m args below meth c H locs cells slots Q (F0 m pc ls (st.map (zcv G))) := by
  obtain ⟨hx, hb, hown, hts, hK, hbs, hE⟩ := B
  unfold zaast at h
  split at h
  · rename_i v i a r
    split at h
    · rename_i kd n rs kv nv rv hM hV
      cases hc : (((kd == 12 && kv == 1) || (kd == 13 && kv == 6)) && !zoutB i n && decide (i.toNatClampNeg < rs.length)) with
      | false => rw [hc, cond_false] at h; cases h
      | true =>
        rw [hc, cond_true] at h
        cases h
        rw [Bool.and_eq_true] at hc
        obtain ⟨hc, c3⟩ := hc
        have c3 := of_decide_eq_true c3
        obtain ⟨c1, c2⟩ := zt_b hc
        have ha := zget_lt hM
        simp only [Bool.or_eq_true, Bool.and_eq_true, beq_iff_eq] at c1
        have hM' : (M.1.set a (kd, n, rs.set i.toNatClampNeg (v + 1)))[a]? = some (kd, n, rs.set i.toNatClampNeg (v + 1)) := by rw [List.getElem?_set, if_pos rfl, if_pos ha]
        have hup : va_up (fun k => (zrv rs k).map (zad G)) i.toNatClampNeg (some (zad G v)) = (fun k => (zrv (rs.set i.toNatClampNeg (v + 1)) k).map (zad G)) := by
          funext j
          unfold va_up
          by_cases hj : j = i.toNatClampNeg
          · subst hj
            rw [if_pos rfl]
            simp [zrv, c3]
          · rw [if_neg hj]
            unfold zrv
            rw [List.getElem?_set, if_neg (fun e => hj e.symm)]
        have hoth : ∀ j, j ≠ a → zcel G (M.1.set a (kd, n, rs.set i.toNatClampNeg (v + 1)), M.2) j = zcel G M j := fun j hj => zcel_m (by show (M.1.set a _)[j]? = _; rw [List.getElem?_set, if_neg (fun e => hj e.symm)]) rfl rfl
        rcases c1 with ⟨rfl, rfl⟩ | ⟨rfl, rfl⟩
        · have he : (zw G M)[a]? = some (zad G a, .inl (G.2.1 2, n, .inr (.inr (.inr (.inr (fun k => (zrv rs k).map (zad G))))))) := by rw [zw_get hM, zcell_12]
          have hv : (zw G M)[v]? = some (zad G v, .inr (1, (List.range (zN 1)).map (zfv G M.2.1 v 1 rv))) := by rw [zw_get hV, zcel_obj (by decide)]
          refine va_astq hx hb hK hR.1 (zw_D G M hR.2) hS a 2 v 1 (r := (RX1, TX1, 4)) he rfl hv rfl (zoutB_f c2) hd (fun H1 locs1 hP1 hD1 hS1 => ?_)
          refine k H1 locs1 cells slots rfl rfl ⟨?_, by rw [List.length_set]; exact hR.2⟩ hS1
          rw [hup] at hP1
          rw [zw_set (M' := (M.1.set a (12, n, rs.set i.toNatClampNeg (v + 1)), M.2)) (by simp) (by rw [zcel_eq hM', zcell_12]) hoth] at hP1
          exact hP1
        · have he : (zw G M)[a]? = some (zad G a, .inl (G.2.1 3, n, .inr (.inr (.inr (.inr (fun k => (zrv rs k).map (zad G))))))) := by rw [zw_get hM, zcell_13]
          have hv : (zw G M)[v]? = some (zad G v, .inr (6, (List.range (zN 6)).map (zfv G M.2.1 v 6 rv))) := by rw [zw_get hV, zcel_obj (by decide)]
          refine va_astq hx hb hK hR.1 (zw_D G M hR.2) hS a 3 v 6 (r := (RX6, TX6, 10)) he rfl hv rfl (zoutB_f c2) hd (fun H1 locs1 hP1 hD1 hS1 => ?_)
          refine k H1 locs1 cells slots rfl rfl ⟨?_, by rw [List.length_set]; exact hR.2⟩ hS1
          rw [hup] at hP1
          rw [zw_set (M' := (M.1.set a (13, n, rs.set i.toNatClampNeg (v + 1)), M.2)) (by simp) (by rw [zcel_eq hM', zcell_13]) hoth] at hP1
          exact hP1
    · cases h
  · cases h
theorem zalen_ok (B : zBd p s m args c cc cn G σ) (hd : decode cc pc = .ok (.arraylength, 1)) (hR : zRel G M H) (hS : va_S (zA G) s.heap H locs) (h : zalen σ pc st M = some (pc', st', M'))
    (k : zKt p l e R s m args below meth c Q G ls cells slots M pc' st' M') : W p l e R s m args below meth c H locs cells slots Q (F0 m pc ls (st.map (zcv G))) := by
  obtain ⟨hx, hb, hown, hts, hK, hbs, hE⟩ := B
  unfold zalen at h
  split at h
  · rename_i a r
    cases ha : Nat.blt a 1000 with
    | true =>
      rw [ha, cond_true] at h
      split at h
      · rename_i kd n rs hM
        cases hc : (kd == 10 || kd == 11) with
        | false => rw [hc, cond_false] at h; cases h
        | true =>
          rw [hc, cond_true] at h
          cases h
          rw [Bool.or_eq_true, beq_iff_eq, beq_iff_eq] at hc
          rcases hc with rfl | rfl
          · have he : (zw G M)[a]? = some (zad G a, .inl (G.2.1 0, n, .inl (M.2.1 a))) := by rw [zw_get hM, zcell_10]
            exact va_alen hx hb hK hR.1 a 0 he rfl rfl hd (k H locs cells slots rfl rfl hR hS)
          · have he : (zw G M)[a]? = some (zad G a, .inl (G.2.1 1, n, .inl (M.2.1 a))) := by rw [zw_get hM, zcell_11]
            exact va_alen hx hb hK hR.1 a 1 he rfl rfl hd (k H locs cells slots rfl rfl hR hS)
      · cases h
    | false =>
      rw [ha, cond_false] at h
      cases hc : Nat.blt a 1005 with
      | false => rw [hc, cond_false] at h; cases h
      | true =>
        rw [hc, cond_true] at h
        cases h
        have hlt := zblt hc
        have hge := zblt_f ha
        obtain ⟨e1, e2⟩ := hE.2.2.2.2.2.1 (a - 1000) (by omega)
        have hz : zad G a = G.2.2.2 (a - 1000) := by unfold zad; rw [if_neg (by omega)]
        show W p l e R s m args below meth c H locs cells slots Q (F0 m pc ls (.ref (zad G a) :: r.map (zcv G)))
        rw [hz]
        exact va_slen hx hb e2 (Nat.lt_of_lt_of_le e1 hbs) (Nat.not_le.mpr e1) hS hd (k H locs cells slots rfl rfl hR hS)
  · cases h
end ZT
end
section
section ZU
variable {p : Program} {l : Launch} {e : Env} {R : Room} {s : State} {m : MethodId} {args : Array Value} {below : List Frame} {meth : Method} {c : Code} {H : Heap} {locs : List Loc} {cells slots : Nat} {Q : State → Prop} {G : zG} {cc : ByteArray} {ls : Array Slot} {pc : Nat} {σ : Nat → Nat × (Nat → Int32)} {cn : Nat} {st st' : List Value} {pc' : Nat} {M M' : zMem}
theorem zrc {a b n r : Nat} (h : a + (n + b) ≤ r + n) : a + b ≤ r := by omega
theorem zre (a b n : Nat) : a + b + n = a + (n + b) := by omega
theorem zl1 {n : Nat} (h : n < 999) : n < 1000 := by omega
theorem zl4 {n k : Nat} (h : n ≤ 10000) (hk : k ≤ 8) : n * k ≤ 536870912 := Nat.le_trans (Nat.mul_le_mul h hk) (by decide)
theorem zsz (hR : zRel G M H) (hS : va_S (zA G) s.heap H locs) (hbs : G.2.2.1 ≤ s.heap.size) (hX : s.heap.size + cells ≤ G.2.2.1 + M.1.length) (hsz : H.size ≤ s.heap.size + cells) : H.size = G.2.2.1 + M.1.length := by
  have h0 := hS.1
  rcases Nat.eq_zero_or_pos M.1.length with hz | hp
  · omega
  · have h1 := (hR.1 (M.1.length - 1) _ (zw_at G M (by omega))).lt
    have h2 : zad G (M.1.length - 1) < H.size := h1
    rw [zad_lt (by have := hR.2; omega)] at h2
    omega
theorem zpush_rel {q : Nat × Nat × List Nat} {n : Nat} {H1 : Heap} (hR : zRel G M H) (hl : M.1.length < 999) (hh : H.size = G.2.2.1 + M.1.length) (o1 : ∀ x : Nat, x < H.size → H1[x]? = H[x]?)
    (hat : va_at G.1 vwCl (H.size, zcell G (fun _ _ => 0) (fun _ _ => 0) M.1.length q) H1) : zRel G (zpush q n M) H1 := by
  refine ⟨?_, by show (M.1 ++ [q]).length ≤ 1000; simp; omega⟩
  have hq : (M.1 ++ [q])[M.1.length]? = some q := by simp
  have e1 : zcel G (zpush q n M) M.1.length = zcell G (fun _ _ => 0) (fun _ _ => 0) M.1.length q := by
    rw [zcel_eq (M := zpush q n M) hq]
    refine zcell_m ?_ ?_
    · show (if M.1.length = M.1.length then (fun _ => 0) else M.2.1 M.1.length) = _
      rw [if_pos rfl]
    · show (if M.1.length = M.1.length then (fun _ => 0) else M.2.2.1 M.1.length) = _
      rw [if_pos rfl]
  have e2 : ∀ j, j < M.1.length → zcel G (zpush q n M) j = zcel G M j := fun j hj => by
    refine zcel_m ?_ ?_ ?_
    · show (M.1 ++ [q])[j]? = _
      rw [List.getElem?_append_left hj]
    · show (if j = M.1.length then (fun _ => 0) else M.2.1 j) = _
      rw [if_neg (by omega)]
    · show (if j = M.1.length then (fun _ => 0) else M.2.2.1 j) = _
      rw [if_neg (by omega)]
  rw [← zw_push (M' := zpush q n M) rfl e1 e2]
  refine (hR.1.kept (fun k x hx => o1 x.1 ((hR.1 k x hx).lt))).app (fun k x hx => ?_)
  have hz : k < 1 := (List.getElem?_eq_some_iff.mp hx).1
  rw [show k = 0 by omega] at hx
  cases hx
  rw [zad_lt (zl1 hl), ← hh]
  exact hat
theorem zS_grow {H1 : Heap} (hS : va_S (zA G) s.heap H locs) (hz : H.size ≤ H1.size) (o1 : ∀ x : Nat, x < H.size → H1[x]? = H[x]?) : va_S (zA G) s.heap H1 locs :=
  ⟨Nat.le_trans hS.1 hz, fun x h1 h2 => (o1 x (Nat.lt_of_lt_of_le h1 hS.1)).trans (hS.2.1 x h1 h2), hS.2.2⟩
set_option maxHeartbeats 4000000 in
theorem znew_ok (B : zBd p s m args c cc cn G σ) {idx : Nat} (hd : decode cc pc = .ok (.new idx, 3)) (hR : zRel G M H) (hS : va_S (zA G) s.heap H locs) (hX : M.2.2.2.1 = true → s.heap.size + cells ≤ G.2.2.1 + M.1.length) (h : znew cn idx pc st M = some (pc', st', M')) (hrc : cells + M'.2.2.2.2.1 ≤ R.cells + M.2.2.2.2.1) (hrs : slots + M'.2.2.2.2.2 ≤ R.slots + M.2.2.2.2.2)
    (k : zKt p l e R s m args below meth c Q G ls cells slots M pc' st' M') : W p l e R s m args below meth c H locs cells slots Q (F0 m pc ls (st.map (zcv G))) := by
  obtain ⟨hx, hb, hown, hts, hK, hbs, hE⟩ := B
  unfold znew at h
  split at h
  · rename_i ci pl hl
    cases hc : (M.2.2.2.1 && Nat.blt M.1.length 999) with
    | false => rw [hc, cond_false] at h; cases h
    | true =>
      rw [hc, cond_true] at h
      obtain ⟨Z, hZ⟩ : ∃ Z, Z = zN ci := ⟨_, rfl⟩
      rw [← hZ] at h
      cases h
      rw [Bool.and_eq_true] at hc
      have hlt := zblt hc.2
      obtain ⟨q, hq, hlk⟩ := zcp_ok hl
      obtain ⟨a1, a2, a3, a4, a5, a6⟩ := zcl_all hq
      have hKn := hK.1 ci _ hq
      intro T hT X
      have hsz := X.heapSize
      rw [hT] at hsz
      have hh := zsz hR hS hbs (hX hc.1) hsz
      have hrc' : cells + 1 ≤ R.cells := zrc (n := M.2.2.2.2.1) hrc
      have aZ : q.2.2 = Z := by rw [hZ]; exact a5.symm
      have hrs' : slots + q.2.2 ≤ R.slots := by rw [aZ]; exact zrc (n := M.2.2.2.2.2) hrs
      suffices hW : W p l e R s m args below meth c H locs cells slots Q (F0 m pc ls (st.map (zcv G))) from hW T hT X
      refine W.newcK hx hb hown (hts _ hlk) (hts _ a2) (hts _ a3) rfl hd hrc' hrs' hKn.2.1 rfl (fun H1 kC hkC e1 z1 o1 => ?_)
      have hk := k H1 locs (cells + 1) (slots + q.2.2) (zre _ _ _) (by rw [aZ]; exact zre _ _ _) (zpush_rel hR hlt hh o1 ?_) (zS_grow hS (by rw [z1]; exact Nat.le_succ _) o1)
      · have e9 : (List.map (zcv G) (.ref M.1.length :: st)) = .ref H.size :: st.map (zcv G) := by
          show (.ref (zad G M.1.length) :: st.map (zcv G) : List Value) = _
          rw [zad_lt (zl1 hlt), hh]
        rw [e9] at hk
        exact hk
      · rw [zcel_obj (zcl_lt hq)]
        refine ⟨_, hq, (u_born (zty ci) hts (zcl_in hq) hKn hkC e1 (zcl_ty hq)).to (fun j hj => ?_)⟩
        obtain ⟨-, t, f, b2, -, b4⟩ := a6 j hj
        unfold vp_V
        rw [List.getD_eq_getElem?_getD, zfs_get (by rw [a5]; exact hj)]
        unfold zfv
        rw [b2]
        split
        · rename_i z hz
          cases hz
          have : zrv (List.replicate Z 0) j = none := by
            unfold zrv
            rw [List.getElem?_replicate]
            split
            · rename_i h1
              split at h1
              · cases h1
              · cases h1
            · rfl
          rw [this]
          revert b4
          cases zty ci j <;> first | (intro _; rfl) | (intro h; cases h; done)
        · rename_i hne
          revert b4
          cases hty : zty ci j <;> intro h <;> first | rfl | (match t, h, hne with | 2, _, hne => exact absurd rfl (hne f))
  · cases h
end ZU
end
section
section ZU
variable {p : Program} {l : Launch} {e : Env} {R : Room} {s : State} {m : MethodId} {args : Array Value} {below : List Frame} {meth : Method} {c : Code} {H : Heap} {locs : List Loc} {cells slots : Nat} {Q : State → Prop} {G : zG} {cc : ByteArray} {ls : Array Slot} {pc : Nat} {σ : Nat → Nat × (Nat → Int32)} {cn : Nat} {st st' : List Value} {pc' : Nat} {M M' : zMem}
theorem zcA {cA : ClassId} {ty : FieldType} {t : Nat} (hK : va_K G.1 vwCl (ztys G) s) (ht : (ztys G)[t]? = some (G.2.1 t, ty)) (hn : va_RA s (G.2.1 t) ty → s.vm.findClass ("[" ++ ty.toString) = some (G.2.1 t)) (h : s.vm.findClass ("[" ++ ty.toString) = some cA) : cA = G.2.1 t := Option.some.inj (h.symm.trans (hn (hK.2 t _ ht).2))
set_option maxHeartbeats 4000000 in
theorem znewa_ok (B : zBd p s m args c cc cn G σ) {t : ArrayType} (hd : decode cc pc = .ok (.newarray t, 2)) (hR : zRel G M H) (hS : va_S (zA G) s.heap H locs) (hX : M.2.2.2.1 = true → s.heap.size + cells ≤ G.2.2.1 + M.1.length) (h : znewa t pc st M = some (pc', st', M')) (hrc : cells + M'.2.2.2.2.1 ≤ R.cells + M.2.2.2.2.1) (hrs : slots + M'.2.2.2.2.2 ≤ R.slots + M.2.2.2.2.2)
    (k : zKt p l e R s m args below meth c Q G ls cells slots M pc' st' M') : W p l e R s m args below meth c H locs cells slots Q (F0 m pc ls (st.map (zcv G))) := by
  obtain ⟨hx, hb, hown, hts, hK, hbs, hE⟩ := B
  unfold znewa at h
  split at h
  · rename_i n r
    cases hc : (M.2.2.2.1 && Nat.blt M.1.length 999 && decide (¬ n < 0) && Nat.ble n.toNatClampNeg 10000) with
    | false => rw [hc, cond_false] at h; cases h
    | true =>
      rw [hc, cond_true] at h
      obtain ⟨N, hN⟩ : ∃ N, N = n.toNatClampNeg := ⟨_, rfl⟩
      rw [← hN] at h hc
      simp only [Bool.and_eq_true] at hc
      obtain ⟨⟨⟨c1, c2⟩, c3⟩, c4⟩ := hc
      have hlt := zblt c2
      have hn := of_decide_eq_true c3
      have hle := zble c4
      intro T hT X
      have hsz := X.heapSize
      rw [hT] at hsz
      have hh := zsz hR hS hbs (hX c1) hsz
      have e9 : (List.map (zcv G) (.ref M.1.length :: r)) = .ref H.size :: r.map (zcv G) := by
        show (.ref (zad G M.1.length) :: r.map (zcv G) : List Value) = _
        rw [zad_lt (zl1 hlt), hh]
      cases t
      case int =>
        cases h
        have hrc' : cells + 1 ≤ R.cells := zrc (n := M.2.2.2.2.1) hrc
        have hrs' : slots + N ≤ R.slots := zrc (n := M.2.2.2.2.2) hrs
        suffices hW : W p l e R s m args below meth c H locs cells slots Q (F0 m pc ls (.int n :: r.map (zcv G))) from hW T hT X
        refine va_newaK (atype := .int) hx hb (hts _ zarr_i) rfl hd rfl hn hN.symm (zl4 (k := 4) hle (by decide)) hrc' hrs' rfl (fun H1 cA e1 z1 o1 hAr hNm => ?_)
        have hcA : cA = G.2.1 0 := zcA (ty := .int) (t := 0) hK rfl (fun h => h) hNm
        subst hcA
        have hk := k H1 locs (cells + 1) (slots + N) (zre _ _ _) (zre _ _ _) (zpush_rel hR hlt hh o1 (by rw [zcell_10]; exact e1)) (zS_grow hS (by rw [z1]; exact Nat.le_succ _) o1)
        rw [e9] at hk
        exact hk
      case byte =>
        cases h
        have hrc' : cells + 1 ≤ R.cells := zrc (n := M.2.2.2.2.1) hrc
        have hrs' : slots + N ≤ R.slots := zrc (n := M.2.2.2.2.2) hrs
        suffices hW : W p l e R s m args below meth c H locs cells slots Q (F0 m pc ls (.int n :: r.map (zcv G))) from hW T hT X
        refine va_newaK (atype := .byte) hx hb (hts _ zarr_b) rfl hd rfl hn hN.symm (zl4 (k := 1) hle (by decide)) hrc' hrs' rfl (fun H1 cA e1 z1 o1 hAr hNm => ?_)
        have hcA : cA = G.2.1 1 := zcA (ty := .byte) (t := 1) hK rfl (fun h => h) hNm
        subst hcA
        have hk := k H1 locs (cells + 1) (slots + N) (zre _ _ _) (zre _ _ _) (zpush_rel hR hlt hh o1 (by rw [zcell_11]; exact e1)) (zS_grow hS (by rw [z1]; exact Nat.le_succ _) o1)
        rw [e9] at hk
        exact hk
      case long =>
        cases h
        have hrc' : cells + 1 ≤ R.cells := zrc (n := M.2.2.2.2.1) hrc
        have hrs' : slots + N ≤ R.slots := zrc (n := M.2.2.2.2.2) hrs
        suffices hW : W p l e R s m args below meth c H locs cells slots Q (F0 m pc ls (.int n :: r.map (zcv G))) from hW T hT X
        refine va_newaK (atype := .long) hx hb (hts _ zarr_l) rfl hd rfl hn hN.symm (zl4 (k := 8) hle (by decide)) hrc' hrs' rfl (fun H1 cA e1 z1 o1 hAr hNm => ?_)
        have hcA : cA = G.2.1 4 := zcA (ty := .long) (t := 4) hK rfl (fun h => h) hNm
        subst hcA
        have hk := k H1 locs (cells + 1) (slots + N) (zre _ _ _) (zre _ _ _) (zpush_rel hR hlt hh o1 (by rw [zcell_14]; exact e1)) (zS_grow hS (by rw [z1]; exact Nat.le_succ _) o1)
        rw [e9] at hk
        exact hk
      all_goals cases h
  · cases h
set_option maxHeartbeats 4000000 in
theorem zanew1 {C : String} {kd t ci pl idx : Nat} {n : Int32} {N : Nat} (hN : n.toNatClampNeg = N) {r : List Value} (hx : p.tables.exec = Jvm.exec) (hb : c.code = cc) (hown : s.vm.findClass (zcn cn) = some m.cls) (hK : va_K G.1 vwCl (ztys G) s) (hbs : G.2.2.1 ≤ s.heap.size) (hlk : (Cond.classLink (zcn cn) idx C).before args s = true) (hov : va_AO C s) (ht : (ztys G)[t]? = some (G.2.1 t, .object C))
    (hcell : ∀ i, zcell G (fun _ _ => 0) (fun _ _ => 0) i (kd, N, List.replicate N 0) = .inl (G.2.1 t, N, .inr (.inr (.inr (.inr (fun k => (zrv (List.replicate N 0) k).map (zad G)))))))
    (hd : decode cc pc = .ok (.anewarray idx, 3)) (hR : zRel G M H) (hS : va_S (zA G) s.heap H locs) (hX : s.heap.size + cells ≤ G.2.2.1 + M.1.length) (hlt : M.1.length < 999) (hn : ¬ n < 0) (hle : N ≤ 10000) (hrc' : cells + 1 ≤ R.cells) (hrs' : slots + N ≤ R.slots)
    (k : zKt p l e R s m args below meth c Q G ls cells slots M (pc + 3) (.ref M.1.length :: r) (zpush (kd, N, List.replicate N 0) N M)) : W p l e R s m args below meth c H locs cells slots Q (F0 m pc ls ((.int n :: r : List Value).map (zcv G))) := by
  subst hN
  intro T hT X
  have hsz := X.heapSize
  rw [hT] at hsz
  have hh := zsz hR hS hbs hX hsz
  have e9 : (List.map (zcv G) (.ref M.1.length :: r)) = .ref H.size :: r.map (zcv G) := by
    show (.ref (zad G M.1.length) :: r.map (zcv G) : List Value) = _
    rw [zad_lt (zl1 hlt), hh]
  suffices hW : W p l e R s m args below meth c H locs cells slots Q (F0 m pc ls (.int n :: r.map (zcv G))) from hW T hT X
  refine W.anew hx hb hown hlk (va_AO.use hov) rfl hd rfl hn (zl4 (k := 4) hle (by decide)) hrc' hrs' (fun cA kA comp f1 f2 f3 f4 => ?_)
  have hcA : cA = G.2.1 t := zcA hK ht (fun h => by obtain ⟨kA, comp, -, -, -, h4⟩ := h; exact h4) f1
  subst hcA
  generalize hH1 : H.push ({ cls := G.2.1 t, slots := Array.replicate n.toNatClampNeg .null, vm := .none } : Cell) = H1
  have z1 : H1.size = H.size + 1 := by rw [← hH1, Array.size_push]
  have e1 : H1[H.size]? = some (arrV (G.2.1 t) n.toNatClampNeg (fun _ => .null)) := by rw [← hH1, Array.getElem?_push_size, ← arrV_new]
  have o1 : ∀ q : Nat, q < H.size → H1[q]? = H[q]? := fun q hq => by rw [← hH1, Array.getElem?_push, if_neg (Nat.ne_of_lt hq)]
  have hk := k H1 locs (cells + 1) (slots + n.toNatClampNeg) (zre _ _ _) (zre _ _ _) (zpush_rel hR hlt hh o1 ?_) (zS_grow hS (by rw [z1]; exact Nat.le_succ _) o1)
  · rw [e9] at hk
    exact hk
  · rw [hcell]
    show H1[H.size]? = some (arrV _ _ (fun j => va_rf ((zrv (List.replicate n.toNatClampNeg 0) j).map (zad G))))
    rw [e1]
    congr 2
    funext j
    have : zrv (List.replicate n.toNatClampNeg 0) j = none := by
      unfold zrv
      rw [List.getElem?_replicate]
      split
      · rename_i h1
        split at h1
        · cases h1
        · cases h1
      · rfl
    rw [this]; rfl
end ZU
end
section
section ZU
variable {p : Program} {l : Launch} {e : Env} {R : Room} {s : State} {m : MethodId} {args : Array Value} {below : List Frame} {meth : Method} {c : Code} {H : Heap} {locs : List Loc} {cells slots : Nat} {Q : State → Prop} {G : zG} {cc : ByteArray} {ls : Array Slot} {pc : Nat} {σ : Nat → Nat × (Nat → Int32)} {cn : Nat} {st st' : List Value} {pc' : Nat} {M M' : zMem}
set_option maxHeartbeats 4000000 in
theorem zanew_ok (B : zBd p s m args c cc cn G σ) {idx : Nat} (hd : decode cc pc = .ok (.anewarray idx, 3)) (hR : zRel G M H) (hS : va_S (zA G) s.heap H locs) (hX : M.2.2.2.1 = true → s.heap.size + cells ≤ G.2.2.1 + M.1.length) (h : zanew cn idx pc st M = some (pc', st', M')) (hrc : cells + M'.2.2.2.2.1 ≤ R.cells + M.2.2.2.2.1) (hrs : slots + M'.2.2.2.2.2 ≤ R.slots + M.2.2.2.2.2)
    (k : zKt p l e R s m args below meth c Q G ls cells slots M pc' st' M') : W p l e R s m args below meth c H locs cells slots Q (F0 m pc ls (st.map (zcv G))) := by
  obtain ⟨hx, hb, hown, hts, hK, hbs, hE⟩ := B
  unfold zanew at h
  split at h
  · rename_i n r
    split at h
    · rename_i ci pl hl
      cases hc : (M.2.2.2.1 && Nat.blt M.1.length 999 && decide (¬ n < 0) && Nat.ble n.toNatClampNeg 10000) with
      | false => rw [hc, cond_false] at h; cases h
      | true =>
        rw [hc, cond_true] at h
        obtain ⟨N, hN⟩ : ∃ N, N = n.toNatClampNeg := ⟨_, rfl⟩
        rw [← hN] at h hc
        simp only [Bool.and_eq_true] at hc
        obtain ⟨⟨⟨c1, c2⟩, c3⟩, c4⟩ := hc
        have hlt := zblt c2
        have hn := of_decide_eq_true c3
        have hle := zble c4
        obtain ⟨q, hq, hlk⟩ := zcp_ok hl
        split at h
        · cases h
          cases hq
          have hrc' : cells + 1 ≤ R.cells := zrc (n := M.2.2.2.2.1) hrc
          have hrs' : slots + N ≤ R.slots := zrc (n := M.2.2.2.2.2) hrs
          exact zanew1 (C := RX1) (kd := 12) (t := 2) (ci := 0) (pl := 0) hN.symm hx hb hown hK hbs (hts _ hlk) hE.2.2.2.2.2.2.1 rfl (fun i => zcell_12) hd hR hS (hX c1) hlt hn hle hrc' hrs' k
        · cases h
          cases hq
          have hrc' : cells + 1 ≤ R.cells := zrc (n := M.2.2.2.2.1) hrc
          have hrs' : slots + N ≤ R.slots := zrc (n := M.2.2.2.2.2) hrs
          exact zanew1 (C := RX6) (kd := 13) (t := 3) (ci := 0) (pl := 0) hN.symm hx hb hown hK hbs (hts _ hlk) hE.2.2.2.2.2.2.2 rfl (fun i => zcell_13) hd hR hS (hX c1) hlt hn hle hrc' hrs' k
        · cases h
    · cases h
  · cases h
def zgck (c : Nat) : Bool := (zgp c).all (fun e => Nat.ble 1 e.2.1 && Nat.ble e.2.1 4 && (match e.2.2.2 with
  | 0 => decide (lw_tbl[e.2.2.1]? = some (.fieldLink (zcn c) e.1 "ElidedLocks" (zsn (e.2.1 - 1)) "[I"))
  | _ => decide (Cond.fieldLinkNest (zcn c) e.1 "ElidedLocks" (zsn (e.2.1 - 1)) "[I" "ElidedLocks" ∈ zNs)))
theorem zgck_ok : (List.range 13).all zgck = true := by decide +kernel
theorem zgp_ge {c : Nat} (h : 13 ≤ c) : zgp c = [] := by unfold zgp; split <;> first | rfl | omega
theorem zgets_ok (B : zBd p s m args c cc cn G σ) {idx : Nat} (hd : decode cc pc = .ok (.getstatic idx, 3)) (hR : zRel G M H) (hS : va_S (zA G) s.heap H locs) (h : zgets cn idx pc st M = some (pc', st', M'))
    (k : zKt p l e R s m args below meth c Q G ls cells slots M pc' st' M') : W p l e R s m args below meth c H locs cells slots Q (F0 m pc ls (st.map (zcv G))) := by
  obtain ⟨hx, hb, hown, hts, hK, hbs, hE⟩ := B
  unfold zgets at h
  split at h
  · rename_i sid pl nest hl
    cases h
    have hm := zlk_of (β := Unit) hl
    have hc : cn < 13 := by
      apply Nat.lt_of_not_le
      intro hc
      rw [zgp_ge hc] at hm
      cases hm
    have h2 := List.all_eq_true.mp (List.all_eq_true.mp zgck_ok cn (List.mem_range.mpr hc)) _ hm
    simp only [Bool.and_eq_true] at h2
    obtain ⟨⟨g1, g2⟩, g3⟩ := h2
    have g1 := zble g1
    have g2 := zble g2
    have hZ := hE.2.2.2.2.1 (sid - 1) (by omega)
    have hsid : 1 + (sid - 1) = sid := by omega
    rw [hsid] at hZ
    have hk := k H locs cells slots rfl rfl hR hS
    have e9 : (List.map (zcv G) (.ref (1000 + sid) :: st)) = .ref (G.2.2.2 sid) :: st.map (zcv G) := by
      show (.ref (zad G (1000 + sid)) :: st.map (zcv G) : List Value) = _
      unfold zad
      rw [if_neg (by omega), show 1000 + sid - 1000 = sid by omega]
    rw [e9] at hk
    match nest, g3 with
    | 0, g3 => exact va_gets hx hb hZ hS hown (hts _ (List.mem_filter.mpr ⟨List.mem_of_getElem? (of_decide_eq_true g3), rfl⟩)) (fun x hx => hx) hd hk
    | z + 1, g3 =>
      have hw : Cond.fieldLinkNest (zcn cn) idx "ElidedLocks" (zsn (sid - 1)) "[I" "ElidedLocks" ∈ zNs := of_decide_eq_true g3
      exact va_getsN hx hb hZ hS hown (va_Nw.use rfl (hE.2.2.2.1 _ hw)) (fun x hx => hx) hd hk
  · cases h
theorem zcat_map (r : List Value) : ((r.map (zcv G)).map fun v => v.category).sum = (r.map fun v => v.category).sum := by
  rw [List.map_map]
  congr 2
  funext v
  exact zcv_cat G v
theorem zl5 {a r : Nat} (h : a ≤ 8) (hr : 150 ≤ r) : 2 * 0 + a + 12 ≤ r := by omega
theorem zl6 {a b r : Nat} (h : a ≤ 8) (h2 : b ≤ 60) (hr : 150 ≤ r) : a + (b + 11) ≤ r := by omega
theorem zoin_ok (B : zBd p s m args c cc cn G σ) (hls : ls.size = c.maxLocals) (hRf : 6 ≤ R.frames) (hRl : 150 ≤ R.locals) {idx : Nat} (hd : decode cc pc = .ok (.invokespecial idx, 3)) (hR : zRel G M H) (hS : va_S (zA G) s.heap H locs) (h : zoin cn idx pc st M = some (pc', st', M'))
    (k : zKt p l e R s m args below meth c Q G ls cells slots M pc' st' M') : W p l e R s m args below meth c H locs cells slots Q (F0 m pc ls (st.map (zcv G))) := by
  obtain ⟨hx, hb, hown, hts, hK, hbs, hE⟩ := B
  unfold zoin at h
  split at h
  · rename_i j pl hl
    rcases st with _ | ⟨v, r⟩
    · cases h
    cases v
    case ref a =>
      dsimp only at h
      cases hc : Nat.ble ((r.map fun v => v.category).sum) 8 with
      | false => rw [hc, cond_false] at h; cases h
      | true =>
        rw [hc, cond_true] at h
        cases h
        have hle := zble hc
        refine W.objInit hx hb hown (hts _ (zmp_4 hl)) (hts _ zob_i) (hts _ zob_c) rfl hls (rest := st'.map (zcv G)) rfl hd (Nat.le_trans (by decide) hRf) ?_ (k H locs cells slots rfl rfl hR hS)
        rw [zcat_map]
        show 2 * 0 + _ + 12 ≤ R.locals
        exact zl5 hle hRl
    all_goals cases h
  · cases h
end ZU
end
section
section ZU
variable {p : Program} {l : Launch} {e : Env} {R : Room} {s : State} {m : MethodId} {args : Array Value} {below : List Frame} {meth : Method} {c : Code} {H : Heap} {locs : List Loc} {cells slots : Nat} {Q : State → Prop} {G : zG} {cc : ByteArray} {ls : Array Slot} {pc : Nat} {σ : Nat → Nat × (Nat → Int32)} {cn : Nat} {st st' : List Value} {pc' : Nat} {M M' : zMem}
theorem znfw : nativeFrameWords "java/lang/System" "arraycopy" 5 ≤ 60 := by decide +kernel
set_option maxHeartbeats 4000000 in
theorem zacp_ok (B : zBd p s m args c cc cn G σ) (hls : ls.size = c.maxLocals) (hRf : 6 ≤ R.frames) (hRl : 150 ≤ R.locals) {idx : Nat} (hd : decode cc pc = .ok (.invokestatic idx, 3)) (hR : zRel G M H) (hS : va_S (zA G) s.heap H locs) (h : zacp cn idx pc st M = some (pc', st', M'))
    (k : zKt p l e R s m args below meth c Q G ls cells slots M pc' st' M') : W p l e R s m args below meth c H locs cells slots Q (F0 m pc ls (st.map (zcv G))) := by
  obtain ⟨hx, hb, hown, hts, hK, hbs, hE⟩ := B
  unfold zacp at h
  split at h
  · rename_i j pl hl
    split at h
    · rename_i n dp a1 sp a0 r
      split at h
      · rename_i k0 n0 r0 k1 n1 r1 hM0 hM1
        cases hc : (k0 == 10 && k1 == 10 && decide (¬ sp < 0) && decide (¬ dp < 0) && decide (¬ n < 0) && Nat.ble (sp.toNatClampNeg + n.toNatClampNeg) n0 && Nat.ble (dp.toNatClampNeg + n.toNatClampNeg) n1 && Nat.ble ((r.map fun v => v.category).sum) 8) with
        | false => rw [hc, cond_false] at h; cases h
        | true =>
          rw [hc, cond_true] at h
          cases h
          simp only [Bool.and_eq_true, beq_iff_eq] at hc
          obtain ⟨⟨⟨⟨⟨⟨⟨rfl, rfl⟩, c3⟩, c4⟩, c5⟩, c6⟩, c7⟩, c8⟩ := hc
          have hle := zble c8
          have he0 : (zw G M)[a0]? = some (zad G a0, .inl (G.2.1 0, n0, .inl (M.2.1 a0))) := by rw [zw_get hM0, zcell_10]
          have he1 : (zw G M)[a1]? = some (zad G a1, .inl (G.2.1 0, n1, .inl (M.2.1 a1))) := by rw [zw_get hM1, zcell_10]
          refine va_copyi hx hb hls.symm hown (hts _ (zmp_5 hl)) (hts _ zac_n) (hts _ zac_s) (hts _ zac_i) hK hR.1 (zw_D G M hR.2) hS a0 a1 0 0 he0 he1 (ty := .int) rfl rfl rfl (of_decide_eq_true c3) (of_decide_eq_true c4) (of_decide_eq_true c5) (zble c6) (zble c7) (fun _ _ => rfl) (Nat.le_trans (by decide) hRf) ?_ hd (fun H1 locs1 hP1 hD1 hS1 => ?_)
          · rw [zcat_map]
            exact zl6 hle znfw hRl
          · refine k H1 locs1 cells slots rfl rfl ⟨?_, hR.2⟩ hS1
            generalize va_cpy (M.2.1 a0) (M.2.1 a1) sp.toNatClampNeg dp.toNatClampNeg n.toNatClampNeg = f at hP1
            have e1 : (zw G M).set a1 (zad G a1, .inl (G.2.1 0, n1, .inl f)) = zw G (M.1, (fun i => if i = a1 then f else M.2.1 i), M.2.2) := by
              refine zw_set rfl ?_ (fun j hj => zcel_m rfl (by show (if j = a1 then _ else M.2.1 j) = _; rw [if_neg hj]) rfl)
              rw [zcel_eq (M := (M.1, (fun i => if i = a1 then f else M.2.1 i), M.2.2)) hM1, zcell_10]
              show (Sum.inl (G.2.1 0, n1, .inl (if a1 = a1 then f else M.2.1 a1)) : va_E) = _
              rw [if_pos rfl]
            rw [← e1]; exact hP1
      · cases h
    · cases h
  · cases h
end ZU
end
section
def zinis : List Nat := [0, 200, 400, 600, 800, 1000, 1200, 1400, 1600, 1805]
def zini (j : Nat) : Bool := zinis.contains j
def znac : Nat → List Nat := fun c => match c with
  | 0 => [0, 1, 3, 0, 1, 1, 0, 3, 1]
  | 1 => [1, 1, 1, 1]
  | 2 => [0, 1, 4, 2]
  | 3 => [0, 1, 1, 1, 1, 2, 1, 1, 0, 0, 1, 1, 2, 3, 3, 3, 3, 3, 2, 2, 3, 2, 3, 2, 2, 2, 1, 0, 0, 0, 0, 2]
  | 4 => [1, 0, 1, 0, 1, 1, 3, 2, 0]
  | 5 => [2, 1, 0, 1, 0, 0, 0, 0, 1, 0, 1, 1, 2]
  | 6 => [0, 1, 0, 2, 1, 1, 0, 0, 2, 0, 1, 0]
  | 7 => [0, 1, 1, 1, 2, 1]
  | 8 => [0, 5, 1, 1, 0, 0, 2, 2, 2, 2, 1, 2, 2, 1, 3, 1, 1, 1, 2, 2, 2, 1, 1, 1, 0, 3, 2, 2, 1, 1, 1, 2, 2, 1, 1, 0, 0, 1, 1, 1, 1, 1]
  | 9 => [0, 2, 3, 2, 1, 0, 2, 0, 0, 0, 2, 2, 1, 3, 1, 3, 1, 2, 2, 3, 2, 2, 2, 2, 3, 2, 2, 2, 2, 2, 2, 2, 2, 1, 3, 1, 0, 0, 0, 1, 0, 5, 1, 0, 2, 0, 0, 1, 1, 2, 3, 0, 1, 0, 0, 0, 0, 1, 1, 0, 0, 0, 0, 1, 1, 2, 1, 1, 2, 2, 1, 1, 2, 2, 2, 2, 1, 1, 2, 1, 2, 1, 3, 2, 2, 0, 0, 0, 1, 1, 1, 1, 1, 0, 4, 2, 2, 3, 1, 2, 1, 1, 4, 2, 1, 2, 1, 1, 1, 2, 1, 1]
  | 10 => [2, 4, 4, 4, 4, 3, 4, 4, 3, 5, 3, 3, 3, 4, 4, 3, 3, 4, 4, 3, 3, 4, 4, 3, 1]
  | 11 => [1]
  | 12 => [2, 2, 2]
  | _ => []
def zna (j : Nat) : Nat := (znac (j / 200)).getD (j % 200) 0
/-- what is caught where: method, pc of the call, exception, answer, which row of the table, its handler, how the exception is stored, where -/
def zhd : List (Nat × Nat × Nat × Nat × Nat × Nat × Nat × Nat) := [(2000, 3, 2, 1, 0, 11, 1, 2), (2000, 3, 3, 2, 1, 14, 1, 2), (2001, 5, 0, 1, 0, 13, 0, 4), (2001, 5, 1, 2, 1, 17, 0, 4), (2002, 5, 0, 1, 0, 13, 0, 4), (2003, 5, 0, 1, 0, 13, 0, 4), (2003, 5, 1, 2, 1, 17, 0, 4), (2004, 5, 0, 1, 0, 13, 0, 4), (2004, 5, 1, 2, 1, 17, 0, 4), (2005, 4, 0, 1, 0, 12, 1, 3), (2006, 5, 0, 1, 0, 13, 0, 4), (2007, 5, 0, 1, 0, 13, 0, 4), (2007, 5, 1, 2, 1, 17, 0, 4), (2008, 4, 1, 1, 0, 12, 1, 3), (2009, 7, 0, 1, 0, 15, 0, 5), (2009, 7, 1, 2, 1, 19, 0, 5), (2010, 4, 0, 1, 0, 12, 1, 3), (2010, 4, 4, 2, 1, 15, 1, 3), (2011, 4, 2, 1, 0, 12, 1, 3), (2012, 4, 2, 1, 0, 12, 1, 3), (2013, 5, 0, 1, 0, 13, 0, 4), (2013, 5, 2, 2, 1, 17, 0, 4), (2014, 5, 1, 1, 0, 13, 0, 4), (2014, 5, 2, 2, 1, 17, 0, 4), (2015, 4, 0, 1, 0, 12, 1, 3), (2016, 4, 1, 1, 0, 12, 1, 3), (2017, 5, 0, 1, 0, 13, 0, 4), (2017, 5, 1, 2, 1, 17, 0, 4), (2018, 5, 0, 1, 0, 13, 0, 4), (2018, 5, 2, 2, 1, 17, 0, 4), (2019, 4, 0, 1, 0, 12, 1, 3), (2020, 4, 0, 1, 0, 12, 1, 3), (2021, 5, 1, 1, 0, 13, 0, 4), (2022, 5, 1, 1, 0, 13, 0, 4), (2023, 4, 0, 1, 0, 12, 1, 3)]
def zarg (j : Nat) (as : List Value) : zLv := match zent j with
  | some q => as.map some ++ List.replicate (q.2.2.1 - as.length) none
  | none => []
def zret (j : Nat) (i : Instr) (st : List Value) : Option (Option Value) := match zent j with
  | some q => match i with
    | .ireturn => match st with
      | [.int v] => match q.2.2.2.1 with
        | some .int => some (some (.int v))
        | some .boolean => if v = 0 ∨ v = 1 then some (some (.int v)) else none
        | _ => none
      | _ => none
    | .areturn => match st with
      | [.ref a] => match q.2.2.2.1 with
        | some (.object _) => some (some (.ref a))
        | _ => none
      | _ => none
    | .return_ => match st with
      | [] => match q.2.2.2.1 with
        | none => some none
        | _ => none
      | _ => none
    | _ => none
  | none => none
def zsum (st : List Value) : Nat := (st.map fun v => v.category).sum
def zthr (j pc : Nat) : Option Nat := (zth.find? (fun t => t.1 == j && t.2.1 == pc)).map (fun t => t.2.2.1)
def zhnd (j pc e : Nat) : Option Nat := (zhd.find? (fun t => t.1 == j && t.2.1 == pc && t.2.2.1 == e)).map (fun t => t.2.2.2.1)
def zsp (j n : Nat) (st : List Value) : Option (Nat × List Value × List Value) := bif Nat.ble n st.length && Nat.ble (zsum (st.drop n)) 8 && (st.take n).all (fun v => v.category == 1) then some (j, (st.take n).reverse, st.drop n) else none
/-- Math.max, Math.min -/
def zmath (c : Nat) (i : Instr) (pc : Nat) (st : List Value) : Option (Nat × List Value) := match i with
  | .invokestatic idx => match (zmp c).lookup idx with
    | some (1, 2401, _) => match st with
      | .int y :: .int x :: r => bif Nat.ble (zsum r) 8 then some (pc + 3, .int (if x < y then y else x) :: r) else none
      | _ => none
    | some (1, 2402, _) => match st with
      | .int y :: .int x :: r => bif Nat.ble (zsum r) 8 then some (pc + 3, .int (if y < x then y else x) :: r) else none
      | _ => none
    | _ => none
  | _ => none
def zcall (c : Nat) (i : Instr) (st : List Value) (M : zMem) : Option (Nat × List Value × List Value) := match i with
  | .invokevirtual idx => match (zmp c).lookup idx with
    | some (0, j, _) => match zsp j (zna j + 1) st with
      | some (j, .ref b :: as, r) => match M.1[b]? with
        | some (kd, _, _) => bif kd == j / 200 then some (j, .ref b :: as, r) else none
        | none => none
      | _ => none
    | _ => none
  | .invokestatic idx => match (zmp c).lookup idx with
    | some (1, j, _) => bif Nat.blt j 2400 then zsp j (zna j) st else none
    | _ => none
  | .invokespecial idx => match (zmp c).lookup idx with
    | some (2, j, _) => match zsp j (zna j + 1) st with
      | some (j, .ref b :: as, r) => some (j, .ref b :: as, r)
      | _ => none
    | some (3, j, _) => match zsp j (zna j + 1) st with
      | some (j, .ref b :: as, r) => some (j, .ref b :: as, r)
      | _ => none
    | _ => none
  | _ => none
def znoH (j : Nat) : Bool := match zent j with
  | some q => q.2.2.2.2.1.isEmpty
  | none => false
def zthM (M : zMem) : zMem := (M.1, M.2.1, M.2.2.1, false, M.2.2.2.2.1 + 1, M.2.2.2.2.2 + 6)
abbrev zO : Type := Option Value ⊕ Nat
def zrun (σ : Nat → Nat × (Nat → Int32)) : Nat → Nat → Nat → Nat → zLv → List Value → zMem → Option (zO × zMem)
  | 0, _, _, _, _, _, _ => none
  | n + 1, d, j, pc, lv, st, M => match zfe j pc with
    | none => none
    | some (i, _) => match zP (j / 200) i pc lv st with
      | some (pc', lv', st') => zrun σ n d j pc' lv' st' M
      | none => match zS σ (j / 200) (zini j) i pc st M with
        | some (pc', st', M') => zrun σ n d j pc' lv st' M'
        | none => match zret j i st with
          | some v => some (.inl v, M)
          | none => match zthr j pc with
            | some e => bif Nat.ble (zsum st) 8 && znoH j then some (.inr e, zthM M) else none
            | none => match zcall (j / 200) i st M with
              | none => match zmath (j / 200) i pc st with
                | some (pc', st') => zrun σ n d j pc' lv st' M
                | none => none
              | some (j', as, rest) => match d with
                | 0 => none
                | d' + 1 => match zrun σ n d' j' 0 (zarg j' as) [] M with
                  | none => none
                  | some (.inl v, M') => zrun σ n (d' + 1) j (pc + 3) lv (v.toList ++ rest) M'
                  | some (.inr e, M') => match zhnd j pc e with
                    | some a => some (.inl (some (.int (Int32.ofNat a))), M')
                    | none => bif znoH j then some (.inr e, M') else none
def zLe (M M' : zMem) : Prop := M.2.2.2.2.1 ≤ M'.2.2.2.2.1 ∧ M.2.2.2.2.2 ≤ M'.2.2.2.2.2 ∧ (M'.2.2.2.1 = true → M.2.2.2.1 = true ∧ M'.2.2.2.2.1 + M.1.length = M.2.2.2.2.1 + M'.1.length)
theorem zLe.rf (M : zMem) : zLe M M := ⟨Nat.le_refl _, Nat.le_refl _, fun h => ⟨h, rfl⟩⟩
theorem zLe.tr {a b c : zMem} (h : zLe a b) (g : zLe b c) : zLe a c := ⟨Nat.le_trans h.1 g.1, Nat.le_trans h.2.1 g.2.1, fun q => by
  obtain ⟨g1, g2⟩ := g.2.2 q
  obtain ⟨h1, h2⟩ := h.2.2 g1
  exact ⟨h1, by omega⟩⟩
theorem zLe.same {M M' : zMem} (h : M'.2.2.2 = M.2.2.2) (h2 : M'.1.length = M.1.length) : zLe M M' := by
  unfold zLe
  rw [h, h2]
  exact ⟨Nat.le_refl _, Nat.le_refl _, fun q => ⟨q, rfl⟩⟩
theorem zLe.push (q : Nat × Nat × List Nat) (n : Nat) (M : zMem) : zLe M (zpush q n M) := ⟨Nat.le_succ _, Nat.le_add_right _ _, fun h => ⟨h, by show M.2.2.2.2.1 + 1 + M.1.length = M.2.2.2.2.1 + (M.1 ++ [q]).length; simp; omega⟩⟩
theorem zS_le {σ : Nat → Nat × (Nat → Int32)} {c : Nat} {ini : Bool} {i : Instr} {pc pc' : Nat} {st st' : List Value} {M M' : zMem} (h : zS σ c ini i pc st M = some (pc', st', M')) : zLe M M' := by
  cases i
  case getfield idx =>
    simp only [zS, zgetf] at h
    repeat' split at h
    all_goals first | (cases h; done) | (simp only [cond_eq_ite] at h; repeat' split at h) | skip
    all_goals first | (cases h; exact zLe.rf _) | (cases h; done)
  case putfield idx =>
    simp only [zS, zputf] at h
    repeat' split at h
    all_goals first | (cases h; done) | (simp only [cond_eq_ite] at h; repeat' split at h) | skip
    all_goals first | (cases h; exact zLe.same rfl (by simp)) | (cases h; done)
  case iaload =>
    simp only [zS, ziald, cond_eq_ite] at h
    repeat' split at h
    all_goals first | (cases h; exact zLe.rf _) | (cases h; done)
  case baload =>
    simp only [zS, zbald, cond_eq_ite] at h
    repeat' split at h
    all_goals first | (cases h; exact zLe.rf _) | (cases h; done)
  case laload =>
    simp only [zS, zlald, cond_eq_ite] at h
    repeat' split at h
    all_goals first | (cases h; exact zLe.rf _) | (cases h; done)
  case aaload =>
    simp only [zS, zaald, cond_eq_ite] at h
    repeat' split at h
    all_goals first | (cases h; exact zLe.rf _) | (cases h; done)
  case iastore =>
    simp only [zS, ziast, cond_eq_ite] at h
    repeat' split at h
    all_goals first | (cases h; exact zLe.same rfl (by simp)) | (cases h; done)
  case bastore =>
    simp only [zS, zbast, cond_eq_ite] at h
    repeat' split at h
    all_goals first | (cases h; exact zLe.same rfl (by simp)) | (cases h; done)
  case lastore =>
    simp only [zS, zlast, cond_eq_ite] at h
    repeat' split at h
    all_goals first | (cases h; exact zLe.same rfl (by simp)) | (cases h; done)
  case aastore =>
    simp only [zS, zaast, cond_eq_ite] at h
    repeat' split at h
    all_goals first | (cases h; exact zLe.same rfl (by simp)) | (cases h; done)
  case arraylength =>
    simp only [zS, zalen, cond_eq_ite] at h
    repeat' split at h
    all_goals first | (cases h; exact zLe.rf _) | (cases h; done)
  case new idx =>
    simp only [zS, znew, cond_eq_ite] at h
    repeat' split at h
    all_goals first | (cases h; exact zLe.push _ _ _) | (cases h; done)
  case newarray t =>
    simp only [zS, znewa, cond_eq_ite] at h
    repeat' split at h
    all_goals first | (cases h; exact zLe.push _ _ _) | (cases h; done)
  case anewarray idx =>
    simp only [zS, zanew, cond_eq_ite] at h
    repeat' split at h
    all_goals first | (cases h; exact zLe.push _ _ _) | (cases h; done)
  case getstatic idx =>
    simp only [zS, zgets] at h
    repeat' split at h
    all_goals first | (cases h; exact zLe.rf _) | (cases h; done)
  case invokespecial idx =>
    simp only [zS, zoin, cond_eq_ite] at h
    repeat' split at h
    all_goals first | (cases h; exact zLe.rf _) | (cases h; done)
  case invokestatic idx =>
    simp only [zS, zacp, cond_eq_ite] at h
    repeat' split at h
    all_goals first | (cases h; exact zLe.same rfl (by simp)) | (cases h; done)
  all_goals cases h
theorem zrun_le {σ : Nat → Nat × (Nat → Int32)} : ∀ (n d j pc : Nat) (lv : zLv) (st : List Value) (M : zMem) (o : zO) (M' : zMem), zrun σ n d j pc lv st M = some (o, M') → zLe M M' := by
  intro n
  induction n with
  | zero => intro d j pc lv st M o M' h; cases h
  | succ n ih =>
    intro d j pc lv st M o M' h
    rw [zrun] at h
    split at h
    · cases h
    · split at h
      · exact ih _ _ _ _ _ _ _ _ h
      · split at h
        · rename_i hS
          exact (zS_le hS).tr (ih _ _ _ _ _ _ _ _ h)
        · split at h
          · cases h; exact zLe.rf _
          · split at h
            · rw [cond_eq_ite] at h
              split at h
              · cases h
                exact ⟨Nat.le_succ _, Nat.le_add_right _ _, fun q => nomatch q⟩
              · cases h
            · split at h
              · split at h
                · exact ih _ _ _ _ _ _ _ _ h
                · cases h
              · split at h
                · cases h
                · split at h
                  · cases h
                  · rename_i hr
                    exact (ih _ _ _ _ _ _ _ _ hr).tr (ih _ _ _ _ _ _ _ _ h)
                  · rename_i hr
                    split at h
                    · cases h
                      exact ih _ _ _ _ _ _ _ _ hr
                    · rw [cond_eq_ite] at h
                      split at h
                      · cases h
                        exact ih _ _ _ _ _ _ _ _ hr
                      · cases h
def znm : List String := ["java/lang/RuntimeException", "java/lang/Exception"]
/-- what is checked of each method: its words stand in the tables -/
def zmok (c i : Nat) (q : zMt) (pl : Nat × Nat × Nat × Nat) : Bool :=
  decide (q.1.cls = zcn c) && plainName q.1.cls && decide (q.1.cls ≠ "java/lang/invoke/MethodHandle") && decide (q.1.cls ≠ "java/lang/invoke/VarHandle") &&
  (if q.2.2.2.2.1 = [] then decide (lw_tbl[pl.1]? = some (.code q.1 q.2.1 q.2.2.1 q.2.2.2.1)) else decide (lw_tbl[pl.1]? = some (.codeWith q.1 q.2.1 q.2.2.1 q.2.2.2.1 q.2.2.2.2.1))) &&
  decide (lw_tbl[pl.2.2.2]? = some (.initialized q.1.cls)) && decide ((parseMethodDescriptor q.1.desc).map (fun d => d.parameters.length) = some (zna (200 * c + i))) &&
  (decide (lw_tbl[pl.2.1]? = some (.static q.1)) || decide (lw_tbl[pl.2.1]? = some (.instanceMethod q.1))) &&
  (decide (lw_tbl[pl.2.1]? = some (.static q.1)) || zini (200 * c + i) || decide (lw_tbl[pl.2.2.1]? = some (.selects q.1.cls q.1 q.1))) &&
  (if zini (200 * c + i) then decide (q.1.name = "<init>") else true) && Nat.ble q.2.2.1 20 && Nat.ble (zna (200 * c + i) + 1) q.2.2.1.succ
end
section
theorem zmo_0_0 : zmok 0 0 (yX0_init, cX0_init, 1, (none : Option FieldType), [], zk_0_0) (189, 188, 0, 111) = true := by decide +kernel
theorem zmo_0_1 : zmok 0 1 (yX0_copyFrom, cX0_copyFrom, 2, (none : Option FieldType), [], zk_0_1) (518, 516, 517, 111) = true := by decide +kernel
theorem zmo_0_2 : zmok 0 2 (yX0_begin, cX0_begin, 4, (none : Option FieldType), [], zk_0_2) (639, 637, 638, 111) = true := by decide +kernel
theorem zmo_0_3 : zmok 0 3 (yX0_close, cX0_close, 1, (none : Option FieldType), [], zk_0_3) (599, 597, 598, 111) = true := by decide +kernel
theorem zmo_0_4 : zmok 0 4 (yX0_leavesOut, cX0_leavesOut, 3, (some FieldType.boolean), [], zk_0_4) (619, 617, 618, 111) = true := by decide +kernel
theorem zmo_0_5 : zmok 0 5 (yX0_leaveOut, cX0_leaveOut, 2, (none : Option FieldType), [], zk_0_5) (631, 629, 630, 111) = true := by decide +kernel
theorem zmo_0_6 : zmok 0 6 (yX0_latestLeftOut, cX0_latestLeftOut, 1, (some FieldType.int), [], zk_0_6) (651, 649, 650, 111) = true := by decide +kernel
theorem zmo_0_7 : zmok 0 7 (yX0_write, cX0_write, 4, (none : Option FieldType), [], zk_0_7) (615, 613, 614, 111) = true := by decide +kernel
theorem zmo_0_8 : zmok 0 8 (yX0_hasValue, cX0_hasValue, 2, (some FieldType.boolean), [], zk_0_8) (627, 625, 626, 111) = true := by decide +kernel
theorem zmo_1_0 : zmok 1 0 (yX1_init, cX1_init, 2, (none : Option FieldType), [], zk_1_0) (151, 150, 0, 109) = true := by decide +kernel
theorem zmo_1_1 : zmok 1 1 (yX1_copyFrom, cX1_copyFrom, 2, (none : Option FieldType), [], zk_1_1) (509, 507, 508, 109) = true := by decide +kernel
theorem zmo_1_2 : zmok 1 2 (yX1_gain, cX1_gain, 2, (none : Option FieldType), [], zk_1_2) (643, 641, 642, 109) = true := by decide +kernel
theorem zmo_1_3 : zmok 1 3 (yX1_lose, cX1_lose, 2, (none : Option FieldType), [], zk_1_3) (595, 593, 594, 109) = true := by decide +kernel
theorem zmo_2_0 : zmok 2 0 (yX2_init, cX2_init, 1, (none : Option FieldType), [], zk_2_0) (289, 288, 0, 112) = true := by decide +kernel
theorem zmo_2_1 : zmok 2 1 (yX2_copyFrom, cX2_copyFrom, 2, (none : Option FieldType), [], zk_2_1) (523, 521, 522, 112) = true := by decide +kernel
theorem zmo_2_2 : zmok 2 2 (yX2_add, cX2_add, 6, (none : Option FieldType), [], zk_2_2) (603, 601, 602, 112) = true := by decide +kernel
theorem zmo_2_3 : zmok 2 3 (yX2_cell, cX2_cell, 3, (some FieldType.int), [], zk_2_3) (1258, 1256, 1257, 112) = true := by decide +kernel
theorem zmo_3_0 : zmok 3 0 (yX3_init, cX3_init, 1, (none : Option FieldType), [], zk_3_0) (144, 143, 0, 108) = true := by decide +kernel
theorem zmo_3_1 : zmok 3 1 (yX3_copyFrom, cX3_copyFrom, 3, (none : Option FieldType), [], zk_3_1) (502, 500, 501, 108) = true := by decide +kernel
theorem zmo_3_2 : zmok 3 2 (yX3_strandAt, cX3_strandAt, 2, (some (FieldType.object "ElidedLocks$Strand")), [], zk_3_2) (536, 534, 535, 108) = true := by decide +kernel
theorem zmo_3_3 : zmok 3 3 (yX3_lockAt, cX3_lockAt, 2, (some (FieldType.object "ElidedLocks$Lock")), [], zk_3_3) (562, 560, 561, 108) = true := by decide +kernel
theorem zmo_3_4 : zmok 3 4 (yX3_blockBit, cX3_blockBit, 3, (some FieldType.int), [], zk_3_4) (570, 568, 569, 108) = true := by decide +kernel
theorem zmo_3_5 : zmok 3 5 (yX3_seenBy, cX3_seenBy, 4, (some FieldType.int), [], zk_3_5) (623, 621, 622, 108) = true := by decide +kernel
theorem zmo_3_6 : zmok 3 6 (yX3_isGuessing, cX3_isGuessing, 2, (some FieldType.boolean), [], zk_3_6) (577, 575, 576, 108) = true := by decide +kernel
theorem zmo_3_7 : zmok 3 7 (yX3_isDone, cX3_isDone, 2, (some FieldType.boolean), [], zk_3_7) (528, 526, 527, 108) = true := by decide +kernel
theorem zmo_3_8 : zmok 3 8 (yX3_nextByTurn, cX3_nextByTurn, 3, (some FieldType.int), [], zk_3_8) (532, 530, 531, 108) = true := by decide +kernel
theorem zmo_3_9 : zmok 3 9 (yX3_nextByDraw, cX3_nextByDraw, 4, (some FieldType.int), [], zk_3_9) (1153, 1151, 1152, 108) = true := by decide +kernel
theorem zmo_3_10 : zmok 3 10 (yX3_draw, cX3_draw, 2, (some FieldType.int), [], zk_3_10) (1158, 1157, 33, 108) = true := by decide +kernel
theorem zmo_3_11 : zmok 3 11 (yX3_takeStep, cX3_takeStep, 5, (some FieldType.int), [], zk_3_11) (546, 544, 545, 108) = true := by decide +kernel
theorem zmo_3_12 : zmok 3 12 (yX3_moveOn, cX3_moveOn, 3, (some FieldType.int), [], zk_3_12) (671, 670, 13, 108) = true := by decide +kernel
theorem zmo_3_13 : zmok 3 13 (yX3_takePlainly, cX3_takePlainly, 5, (some FieldType.int), [], zk_3_13) (635, 634, 7, 108) = true := by decide +kernel
theorem zmo_3_14 : zmok 3 14 (yX3_takeGuessing, cX3_takeGuessing, 5, (some FieldType.int), [], zk_3_14) (558, 557, 2, 108) = true := by decide +kernel
theorem zmo_3_15 : zmok 3 15 (yX3_dropLock, cX3_dropLock, 5, (some FieldType.int), [], zk_3_15) (647, 646, 8, 108) = true := by decide +kernel
theorem zmo_3_16 : zmok 3 16 (yX3_keep, cX3_keep, 5, (none : Option FieldType), [], zk_3_16) (655, 654, 9, 108) = true := by decide +kernel
theorem zmo_3_17 : zmok 3 17 (yX3_getWord, cX3_getWord, 5, (some FieldType.int), [], zk_3_17) (659, 658, 10, 108) = true := by decide +kernel
theorem zmo_3_18 : zmok 3 18 (yX3_goOnWorking, cX3_goOnWorking, 3, (some FieldType.int), [], zk_3_18) (663, 662, 11, 108) = true := by decide +kernel
theorem zmo_3_19 : zmok 3 19 (yX3_putOut, cX3_putOut, 3, (some FieldType.int), [], zk_3_19) (667, 666, 12, 108) = true := by decide +kernel
theorem zmo_3_20 : zmok 3 20 (yX3_reach, cX3_reach, 9, (some FieldType.int), [], zk_3_20) (566, 564, 565, 108) = true := by decide +kernel
theorem zmo_3_21 : zmok 3 21 (yX3_isFull, cX3_isFull, 3, (some FieldType.boolean), [], zk_3_21) (581, 580, 3, 108) = true := by decide +kernel
theorem zmo_3_22 : zmok 3 22 (yX3_holdersOf, cX3_holdersOf, 8, (some FieldType.int), [], zk_3_22) (607, 606, 5, 108) = true := by decide +kernel
theorem zmo_3_23 : zmok 3 23 (yX3_anyBefore, cX3_anyBefore, 4, (some FieldType.boolean), [], zk_3_23) (611, 610, 6, 108) = true := by decide +kernel
theorem zmo_3_24 : zmok 3 24 (yX3_fall, cX3_fall, 4, (some FieldType.int), [], zk_3_24) (591, 590, 4, 108) = true := by decide +kernel
theorem zmo_3_25 : zmok 3 25 (yX3_blocksOf, cX3_blocksOf, 7, (some FieldType.int), [], zk_3_25) (1210, 1208, 1209, 108) = true := by decide +kernel
theorem zmo_3_26 : zmok 3 26 (yX3_leavingOut, cX3_leavingOut, 4, (some FieldType.int), [], zk_3_26) (1092, 1090, 1091, 108) = true := by decide +kernel
theorem zmo_3_27 : zmok 3 27 (yX3_doneBits, cX3_doneBits, 3, (some FieldType.int), [], zk_3_27) (752, 750, 751, 108) = true := by decide +kernel
theorem zmo_3_28 : zmok 3 28 (yX3_guessingBits, cX3_guessingBits, 3, (some FieldType.int), [], zk_3_28) (756, 754, 755, 108) = true := by decide +kernel
theorem zmo_3_29 : zmok 3 29 (yX3_lockBits, cX3_lockBits, 3, (some FieldType.int), [], zk_3_29) (764, 762, 763, 108) = true := by decide +kernel
theorem zmo_3_30 : zmok 3 30 (yX3_allKept, cX3_allKept, 3, (some FieldType.int), [], zk_3_30) (760, 758, 759, 108) = true := by decide +kernel
theorem zmo_3_31 : zmok 3 31 (yX3_isWordOfOther, cX3_isWordOfOther, 4, (some FieldType.boolean), [], zk_3_31) (863, 861, 862, 108) = true := by decide +kernel
theorem zmo_4_0 : zmok 4 0 (yX4_init, cX4_init, 2, (none : Option FieldType), [], zk_4_0) (406, 405, 0, 115) = true := by decide +kernel
theorem zmo_4_1 : zmok 4 1 (yX4_forget, cX4_forget, 1, (none : Option FieldType), [], zk_4_1) (744, 742, 743, 115) = true := by decide +kernel
theorem zmo_4_2 : zmok 4 2 (yX4_threadOf, cX4_threadOf, 2, (some FieldType.int), [], zk_4_2) (724, 722, 723, 115) = true := by decide +kernel
theorem zmo_4_3 : zmok 4 3 (yX4_search, cX4_search, 2, (none : Option FieldType), [], zk_4_3) (679, 677, 678, 115) = true := by decide +kernel
theorem zmo_4_4 : zmok 4 4 (yX4_placeFrom, cX4_placeFrom, 6, (some FieldType.boolean), [], zk_4_4) (700, 699, 14, 115) = true := by decide +kernel
theorem zmo_4_5 : zmok 4 5 (yX4_playPart, cX4_playPart, 6, (some FieldType.boolean), [], zk_4_5) (708, 707, 16, 115) = true := by decide +kernel
theorem zmo_4_6 : zmok 4 6 (yX4_playDeed, cX4_playDeed, 6, (some FieldType.boolean), [], zk_4_6) (715, 714, 17, 115) = true := by decide +kernel
theorem zmo_4_7 : zmok 4 7 (yX4_playOutput, cX4_playOutput, 3, (some FieldType.boolean), [], zk_4_7) (720, 719, 18, 115) = true := by decide +kernel
theorem zmo_4_8 : zmok 4 8 (yX4_cameOut, cX4_cameOut, 2, (some FieldType.boolean), [], zk_4_8) (704, 703, 15, 115) = true := by decide +kernel
theorem zmo_5_0 : zmok 5 0 (yX5_init, cX5_init, 3, (none : Option FieldType), [], zk_5_0) (370, 369, 0, 113) = true := by decide +kernel
theorem zmo_5_1 : zmok 5 1 (yX5_readAll, cX5_readAll, 3, (some FieldType.int), [], zk_5_1) (777, 775, 776, 113) = true := by decide +kernel
theorem zmo_5_2 : zmok 5 2 (yX5_readLine, cX5_readLine, 2, (some FieldType.boolean), [], zk_5_2) (788, 787, 20, 113) = true := by decide +kernel
theorem zmo_5_3 : zmok 5 3 (yX5_readTerm, cX5_readTerm, 3, (some FieldType.boolean), [], zk_5_3) (867, 866, 26, 113) = true := by decide +kernel
theorem zmo_5_4 : zmok 5 4 (yX5_readTrust, cX5_readTrust, 3, (some FieldType.boolean), [], zk_5_4) (845, 844, 22, 113) = true := by decide +kernel
theorem zmo_5_5 : zmok 5 5 (yX5_readWord, cX5_readWord, 3, (some FieldType.boolean), [], zk_5_5) (854, 853, 24, 113) = true := by decide +kernel
theorem zmo_5_6 : zmok 5 6 (yX5_readLock, cX5_readLock, 3, (some FieldType.boolean), [], zk_5_6) (858, 857, 25, 113) = true := by decide +kernel
theorem zmo_5_7 : zmok 5 7 (yX5_readProgram, cX5_readProgram, 3, (some FieldType.boolean), [], zk_5_7) (875, 874, 27, 113) = true := by decide +kernel
theorem zmo_5_8 : zmok 5 8 (yX5_readDeed, cX5_readDeed, 4, (some FieldType.boolean), [], zk_5_8) (885, 884, 28, 113) = true := by decide +kernel
theorem zmo_5_9 : zmok 5 9 (yX5_lookAhead, cX5_lookAhead, 1, (none : Option FieldType), [], zk_5_9) (784, 783, 19, 113) = true := by decide +kernel
theorem zmo_5_10 : zmok 5 10 (yX5_skipSign, cX5_skipSign, 2, (some FieldType.boolean), [], zk_5_10) (898, 897, 29, 113) = true := by decide +kernel
theorem zmo_5_11 : zmok 5 11 (yX5_readName, cX5_readName, 6, (some FieldType.int), [], zk_5_11) (793, 792, 21, 113) = true := by decide +kernel
theorem zmo_5_12 : zmok 5 12 (yX5_readNumber, cX5_readNumber, 6, (some FieldType.int), [], zk_5_12) (849, 848, 23, 113) = true := by decide +kernel
theorem zmo_6_0 : zmok 6 0 (yX6_init, cX6_init, 1, (none : Option FieldType), [], zk_6_0) (183, 182, 0, 110) = true := by decide +kernel
theorem zmo_6_1 : zmok 6 1 (yX6_copyFrom, cX6_copyFrom, 2, (none : Option FieldType), [], zk_6_1) (513, 511, 512, 110) = true := by decide +kernel
theorem zmo_6_2 : zmok 6 2 (yX6_clear, cX6_clear, 2, (none : Option FieldType), [], zk_6_2) (880, 878, 879, 110) = true := by decide +kernel
theorem zmo_6_3 : zmok 6 3 (yX6_addDeed, cX6_addDeed, 3, (none : Option FieldType), [], zk_6_3) (894, 892, 893, 110) = true := by decide +kernel
theorem zmo_6_4 : zmok 6 4 (yX6_kindAt, cX6_kindAt, 2, (some FieldType.int), [], zk_6_4) (554, 552, 553, 110) = true := by decide +kernel
theorem zmo_6_5 : zmok 6 5 (yX6_numberAt, cX6_numberAt, 2, (some FieldType.int), [], zk_6_5) (550, 548, 549, 110) = true := by decide +kernel
theorem zmo_6_6 : zmok 6 6 (yX6_isDone, cX6_isDone, 1, (some FieldType.boolean), [], zk_6_6) (540, 538, 539, 110) = true := by decide +kernel
theorem zmo_6_7 : zmok 6 7 (yX6_allFalls, cX6_allFalls, 3, (some FieldType.int), [], zk_6_7) (1018, 1016, 1017, 110) = true := by decide +kernel
theorem zmo_6_8 : zmok 6 8 (yX6_heldBehind, cX6_heldBehind, 4, (some FieldType.int), [], zk_6_8) (693, 691, 692, 110) = true := by decide +kernel
theorem zmo_6_9 : zmok 6 9 (yX6_mostHeld, cX6_mostHeld, 4, (some FieldType.int), [], zk_6_9) (1229, 1227, 1228, 110) = true := by decide +kernel
theorem zmo_6_10 : zmok 6 10 (yX6_partEnd, cX6_partEnd, 4, (some FieldType.int), [], zk_6_10) (688, 686, 687, 110) = true := by decide +kernel
theorem zmo_6_11 : zmok 6 11 (yX6_partCount, cX6_partCount, 3, (some FieldType.int), [], zk_6_11) (684, 682, 683, 110) = true := by decide +kernel
theorem zmo_7_0 : zmok 7 0 (yX7_init, cX7_init, 1, (none : Option FieldType), [], zk_7_0) (393, 392, 0, 114) = true := by decide +kernel
theorem zmo_7_1 : zmok 7 1 (yX7_write, cX7_write, 3, (some FieldType.int), [], zk_7_1) (1272, 1270, 1271, 114) = true := by decide +kernel
theorem zmo_7_2 : zmok 7 2 (yX7_byteAt, cX7_byteAt, 2, (some FieldType.int), [], zk_7_2) (732, 730, 731, 114) = true := by decide +kernel
theorem zmo_7_3 : zmok 7 3 (yX7_putByte, cX7_putByte, 2, (none : Option FieldType), [], zk_7_3) (1283, 1282, 35, 114) = true := by decide +kernel
theorem zmo_7_4 : zmok 7 4 (yX7_putName, cX7_putName, 5, (none : Option FieldType), [], zk_7_4) (1277, 1276, 34, 114) = true := by decide +kernel
theorem zmo_7_5 : zmok 7 5 (yX7_putNumber, cX7_putNumber, 2, (none : Option FieldType), [], zk_7_5) (1290, 1289, 36, 114) = true := by decide +kernel
theorem zmo_8_0 : zmok 8 0 (yX8_init, cX8_init, 1, (none : Option FieldType), [], zk_8_0) (136, 135, 0, 107) = true := by decide +kernel
theorem zmo_8_1 : zmok 8 1 (yX8_feed, cX8_feed, 6, (some FieldType.int), [], zk_8_1) (474, 472, 473, 107) = true := by decide +kernel
theorem zmo_8_2 : zmok 8 2 (yX8_feedOne, cX8_feedOne, 3, (none : Option FieldType), [], zk_8_2) (478, 477, 0, 107) = true := by decide +kernel
theorem zmo_8_3 : zmok 8 3 (yX8_end, cX8_end, 2, (some FieldType.boolean), [], zk_8_3) (482, 480, 481, 107) = true := by decide +kernel
theorem zmo_8_4 : zmok 8 4 (yX8_machine, cX8_machine, 1, (some FieldType.int), [], zk_8_4) (773, 771, 772, 107) = true := by decide +kernel
theorem zmo_8_5 : zmok 8 5 (yX8_fault, cX8_fault, 1, (some FieldType.int), [], zk_8_5) (486, 484, 485, 107) = true := by decide +kernel
theorem zmo_8_6 : zmok 8 6 (yX8_thread, cX8_thread, 4, (some FieldType.int), [], zk_8_6) (992, 990, 991, 107) = true := by decide +kernel
theorem zmo_8_7 : zmok 8 7 (yX8_leftOut, cX8_leftOut, 4, (some FieldType.int), [], zk_8_7) (1041, 1039, 1040, 107) = true := by decide +kernel
theorem zmo_8_8 : zmok 8 8 (yX8_blocks, cX8_blocks, 4, (some FieldType.int), [], zk_8_8) (1048, 1046, 1047, 107) = true := by decide +kernel
theorem zmo_8_9 : zmok 8 9 (yX8_fell, cX8_fell, 5, (some FieldType.int), [], zk_8_9) (1059, 1057, 1058, 107) = true := by decide +kernel
theorem zmo_8_10 : zmok 8 10 (yX8_word, cX8_word, 2, (some FieldType.int), [], zk_8_10) (1067, 1065, 1066, 107) = true := by decide +kernel
theorem zmo_8_11 : zmok 8 11 (yX8_sees, cX8_sees, 4, (some FieldType.int), [], zk_8_11) (1078, 1076, 1077, 107) = true := by decide +kernel
theorem zmo_8_12 : zmok 8 12 (yX8_lock, cX8_lock, 4, (some FieldType.int), [], zk_8_12) (1086, 1084, 1085, 107) = true := by decide +kernel
theorem zmo_8_13 : zmok 8 13 (yX8_term, cX8_term, 2, (some FieldType.int), [], zk_8_13) (1100, 1098, 1099, 107) = true := by decide +kernel
theorem zmo_8_14 : zmok 8 14 (yX8_deed, cX8_deed, 6, (some FieldType.int), [], zk_8_14) (1108, 1106, 1107, 107) = true := by decide +kernel
theorem zmo_8_15 : zmok 8 15 (yX8_step, cX8_step, 3, (some FieldType.int), [], zk_8_15) (1118, 1116, 1117, 107) = true := by decide +kernel
theorem zmo_8_16 : zmok 8 16 (yX8_run, cX8_run, 2, (some FieldType.int), [], zk_8_16) (1141, 1139, 1140, 107) = true := by decide +kernel
theorem zmo_8_17 : zmok 8 17 (yX8_chance, cX8_chance, 2, (some FieldType.int), [], zk_8_17) (1166, 1164, 1165, 107) = true := by decide +kernel
theorem zmo_8_18 : zmok 8 18 (yX8_goOn, cX8_goOn, 5, (some FieldType.int), [], zk_8_18) (1149, 1148, 32, 107) = true := by decide +kernel
theorem zmo_8_19 : zmok 8 19 (yX8_poke, cX8_poke, 4, (some FieldType.int), [], zk_8_19) (1173, 1171, 1172, 107) = true := by decide +kernel
theorem zmo_8_20 : zmok 8 20 (yX8_tune, cX8_tune, 4, (some FieldType.int), [], zk_8_20) (1182, 1180, 1181, 107) = true := by decide +kernel
theorem zmo_8_21 : zmok 8 21 (yX8_seed, cX8_seed, 3, (some FieldType.int), [], zk_8_21) (490, 488, 489, 107) = true := by decide +kernel
theorem zmo_8_22 : zmok 8 22 (yX8_due, cX8_due, 2, (some FieldType.int), [], zk_8_22) (1192, 1190, 1191, 107) = true := by decide +kernel
theorem zmo_8_23 : zmok 8 23 (yX8_quickest, cX8_quickest, 7, (some FieldType.int), [], zk_8_23) (1199, 1197, 1198, 107) = true := by decide +kernel
theorem zmo_8_24 : zmok 8 24 (yX8_plain, cX8_plain, 1, (some FieldType.int), [], zk_8_24) (494, 492, 493, 107) = true := by decide +kernel
theorem zmo_8_25 : zmok 8 25 (yX8_ticksAhead, cX8_ticksAhead, 6, (some FieldType.int), [], zk_8_25) (498, 497, 1, 107) = true := by decide +kernel
theorem zmo_8_26 : zmok 8 26 (yX8_touches, cX8_touches, 5, (some FieldType.int), [], zk_8_26) (1206, 1204, 1205, 107) = true := by decide +kernel
theorem zmo_8_27 : zmok 8 27 (yX8_rivals, cX8_rivals, 7, (some FieldType.int), [], zk_8_27) (1217, 1215, 1216, 107) = true := by decide +kernel
theorem zmo_8_28 : zmok 8 28 (yX8_nest, cX8_nest, 2, (some FieldType.int), [], zk_8_28) (1225, 1223, 1224, 107) = true := by decide +kernel
theorem zmo_8_29 : zmok 8 29 (yX8_parts, cX8_parts, 2, (some FieldType.int), [], zk_8_29) (1238, 1236, 1237, 107) = true := by decide +kernel
theorem zmo_8_30 : zmok 8 30 (yX8_serial, cX8_serial, 2, (some FieldType.int), [], zk_8_30) (675, 673, 674, 107) = true := by decide +kernel
theorem zmo_8_31 : zmok 8 31 (yX8_output, cX8_output, 4, (some FieldType.int), [], zk_8_31) (1246, 1244, 1245, 107) = true := by decide +kernel
theorem zmo_8_32 : zmok 8 32 (yX8_log, cX8_log, 3, (some FieldType.int), [], zk_8_32) (1253, 1251, 1252, 107) = true := by decide +kernel
theorem zmo_8_33 : zmok 8 33 (yX8_text, cX8_text, 2, (some FieldType.int), [], zk_8_33) (1268, 1266, 1267, 107) = true := by decide +kernel
theorem zmo_8_34 : zmok 8 34 (yX8_octet, cX8_octet, 2, (some FieldType.int), [], zk_8_34) (728, 726, 727, 107) = true := by decide +kernel
theorem zmo_8_35 : zmok 8 35 (yX8_image, cX8_image, 1, (none : Option FieldType), [], zk_8_35) (736, 734, 735, 107) = true := by decide +kernel
theorem zmo_8_36 : zmok 8 36 (yX8_back, cX8_back, 1, (some FieldType.boolean), [], zk_8_36) (740, 738, 739, 107) = true := by decide +kernel
theorem zmo_8_37 : zmok 8 37 (yX8_count, cX8_count, 2, (some FieldType.int), [], zk_8_37) (748, 746, 747, 107) = true := by decide +kernel
theorem zmo_8_38 : zmok 8 38 (yX8_strandOf, cX8_strandOf, 2, (some (FieldType.object "ElidedLocks$Strand")), [], zk_8_38) (996, 995, 31, 107) = true := by decide +kernel
theorem zmo_8_39 : zmok 8 39 (yX8_wordOf, cX8_wordOf, 1, (some FieldType.int), [], zk_8_39) (1070, 1069, 0, 107) = true := by decide +kernel
theorem zmo_8_40 : zmok 8 40 (yX8_whatOfTwo, cX8_whatOfTwo, 1, (some FieldType.int), [], zk_8_40) (1051, 1050, 0, 107) = true := by decide +kernel
theorem zmo_8_41 : zmok 8 41 (yX8_ticksOf, cX8_ticksOf, 1, (some FieldType.int), [], zk_8_41) (1144, 1143, 0, 107) = true := by decide +kernel
theorem zmo_9_0 : zmok 9 0 (yX9_thrown, cX9_thrown, 1, (some FieldType.int), [], zk_9_0) (1294, 1292, 1293, 116) = true := by decide +kernel
theorem zmo_9_1 : zmok 9 1 (yX9_throwsIf, cX9_throwsIf, 3, (some FieldType.boolean), [], zk_9_1) (1489, 1488, 55, 116) = true := by decide +kernel
theorem zmo_9_2 : zmok 9 2 (yX9_in, cX9_in, 3, (some FieldType.boolean), [], zk_9_2) (1500, 1499, 0, 116) = true := by decide +kernel
theorem zmo_9_3 : zmok 9 3 (yX9_holds, cX9_holds, 2, (some FieldType.boolean), [], zk_9_3) (1544, 1543, 0, 116) = true := by decide +kernel
theorem zmo_9_4 : zmok 9 4 (yX9_bits, cX9_bits, 3, (some FieldType.int), [], zk_9_4) (1576, 1575, 0, 116) = true := by decide +kernel
theorem zmo_9_5 : zmok 9 5 (yX9_init, cX9_init, 2, (none : Option FieldType), [], zk_9_5) (1299, 1298, 0, 116) = true := by decide +kernel
theorem zmo_9_6 : zmok 9 6 (yX9_copies, cX9_copies, 3, (none : Option FieldType), [], zk_9_6) (1359, 1358, 0, 116) = true := by decide +kernel
theorem zmo_9_7 : zmok 9 7 (yX9_image, cX9_image, 1, (none : Option FieldType), [], zk_9_7) (1356, 1354, 1355, 116) = true := by decide +kernel
theorem zmo_9_8 : zmok 9 8 (yX9_back, cX9_back, 1, (some FieldType.boolean), [], zk_9_8) (1363, 1361, 1362, 116) = true := by decide +kernel
theorem zmo_9_9 : zmok 9 9 (yX9_threads, cX9_threads, 1, (some FieldType.int), [], zk_9_9) (1414, 1413, 44, 116) = true := by decide +kernel
theorem zmo_9_10 : zmok 9 10 (yX9_at, cX9_at, 2, (some FieldType.int), [], zk_9_10) (1417, 1416, 0, 116) = true := by decide +kernel
theorem zmo_9_11 : zmok 9 11 (yX9_of, cX9_of, 3, (some FieldType.int), [], zk_9_11) (1437, 1436, 47, 116) = true := by decide +kernel
theorem zmo_9_12 : zmok 9 12 (yX9_isDone, cX9_isDone, 2, (some FieldType.boolean), [], zk_9_12) (1504, 1503, 57, 116) = true := by decide +kernel
theorem zmo_9_13 : zmok 9 13 (yX9_deedOf, cX9_deedOf, 4, (some FieldType.int), [], zk_9_13) (1513, 1512, 59, 116) = true := by decide +kernel
theorem zmo_9_14 : zmok 9 14 (yX9_blockOf, cX9_blockOf, 2, (some FieldType.int), [], zk_9_14) (1529, 1528, 63, 116) = true := by decide +kernel
theorem zmo_9_15 : zmok 9 15 (yX9_logs, cX9_logs, 5, (none : Option FieldType), [], zk_9_15) (1561, 1560, 70, 116) = true := by decide +kernel
theorem zmo_9_16 : zmok 9 16 (yX9_ends, cX9_ends, 2, (none : Option FieldType), [], zk_9_16) (1557, 1556, 69, 116) = true := by decide +kernel
theorem zmo_9_17 : zmok 9 17 (yX9_falls, cX9_falls, 4, (none : Option FieldType), [], zk_9_17) (1552, 1551, 68, 116) = true := by decide +kernel
theorem zmo_9_18 : zmok 9 18 (yX9_itFalls, cX9_itFalls, 3, (none : Option FieldType), [], zk_9_18) (1548, 1547, 67, 116) = true := by decide +kernel
theorem zmo_9_19 : zmok 9 19 (yX9_clashing, cX9_clashing, 7, (some FieldType.int), [], zk_9_19) (1533, 1532, 64, 116) = true := by decide +kernel
theorem zmo_9_20 : zmok 9 20 (yX9_yields, cX9_yields, 5, (some FieldType.boolean), [], zk_9_20) (1541, 1540, 66, 116) = true := by decide +kernel
theorem zmo_9_21 : zmok 9 21 (yX9_clears, cX9_clears, 4, (some FieldType.boolean), [], zk_9_21) (1537, 1536, 65, 116) = true := by decide +kernel
theorem zmo_9_22 : zmok 9 22 (yX9_seen, cX9_seen, 3, (some FieldType.int), [], zk_9_22) (1565, 1564, 71, 116) = true := by decide +kernel
theorem zmo_9_23 : zmok 9 23 (yX9_reads, cX9_reads, 3, (some FieldType.boolean), [], zk_9_23) (1525, 1524, 62, 116) = true := by decide +kernel
theorem zmo_9_24 : zmok 9 24 (yX9_writes, cX9_writes, 6, (some FieldType.boolean), [], zk_9_24) (1573, 1572, 73, 116) = true := by decide +kernel
theorem zmo_9_25 : zmok 9 25 (yX9_placeLeft, cX9_placeLeft, 5, (some FieldType.int), [], zk_9_25) (1569, 1568, 72, 116) = true := by decide +kernel
theorem zmo_9_26 : zmok 9 26 (yX9_leavesOut, cX9_leavesOut, 3, (none : Option FieldType), [], zk_9_26) (1580, 1579, 74, 116) = true := by decide +kernel
theorem zmo_9_27 : zmok 9 27 (yX9_beginsGuess, cX9_beginsGuess, 3, (none : Option FieldType), [], zk_9_27) (1584, 1583, 75, 116) = true := by decide +kernel
theorem zmo_9_28 : zmok 9 28 (yX9_isTaken, cX9_isTaken, 3, (none : Option FieldType), [], zk_9_28) (1588, 1587, 76, 116) = true := by decide +kernel
theorem zmo_9_29 : zmok 9 29 (yX9_takes, cX9_takes, 5, (some FieldType.boolean), [], zk_9_29) (1521, 1520, 61, 116) = true := by decide +kernel
theorem zmo_9_30 : zmok 9 30 (yX9_isKept, cX9_isKept, 4, (none : Option FieldType), [], zk_9_30) (1597, 1596, 78, 116) = true := by decide +kernel
theorem zmo_9_31 : zmok 9 31 (yX9_drops, cX9_drops, 5, (some FieldType.boolean), [], zk_9_31) (1593, 1592, 77, 116) = true := by decide +kernel
theorem zmo_9_32 : zmok 9 32 (yX9_works, cX9_works, 3, (some FieldType.boolean), [], zk_9_32) (1601, 1600, 79, 116) = true := by decide +kernel
theorem zmo_9_33 : zmok 9 33 (yX9_putsOut, cX9_putsOut, 2, (some FieldType.boolean), [], zk_9_33) (1605, 1604, 80, 116) = true := by decide +kernel
theorem zmo_9_34 : zmok 9 34 (yX9_does, cX9_does, 4, (some FieldType.boolean), [], zk_9_34) (1517, 1516, 60, 116) = true := by decide +kernel
theorem zmo_9_35 : zmok 9 35 (yX9_steps, cX9_steps, 4, (some FieldType.int), [], zk_9_35) (1509, 1508, 58, 116) = true := by decide +kernel
theorem zmo_9_36 : zmok 9 36 (yX9_doneOnes, cX9_doneOnes, 3, (some FieldType.int), [], zk_9_36) (1621, 1620, 83, 116) = true := by decide +kernel
theorem zmo_9_37 : zmok 9 37 (yX9_areAllDone, cX9_areAllDone, 1, (some FieldType.boolean), [], zk_9_37) (1617, 1616, 82, 116) = true := by decide +kernel
theorem zmo_9_38 : zmok 9 38 (yX9_nextOne, cX9_nextOne, 3, (some FieldType.int), [], zk_9_38) (1634, 1633, 86, 116) = true := by decide +kernel
theorem zmo_9_39 : zmok 9 39 (yX9_drawOf, cX9_drawOf, 2, (some FieldType.int), [], zk_9_39) (1629, 1628, 85, 116) = true := by decide +kernel
theorem zmo_9_40 : zmok 9 40 (yX9_drawnOne, cX9_drawnOne, 3, (some FieldType.int), [], zk_9_40) (1625, 1624, 84, 116) = true := by decide +kernel
theorem zmo_9_41 : zmok 9 41 (yX9_feed, cX9_feed, 7, (some FieldType.int), [], zk_9_41) (1367, 1365, 1366, 116) = true := by decide +kernel
theorem zmo_9_42 : zmok 9 42 (yX9_end, cX9_end, 2, (some FieldType.boolean), [], zk_9_42) (1371, 1369, 1370, 116) = true := by decide +kernel
theorem zmo_9_43 : zmok 9 43 (yX9_fault, cX9_fault, 1, (some FieldType.int), [], zk_9_43) (1375, 1373, 1374, 116) = true := by decide +kernel
theorem zmo_9_44 : zmok 9 44 (yX9_isAt, cX9_isAt, 3, (some FieldType.boolean), [], zk_9_44) (1391, 1390, 39, 116) = true := by decide +kernel
theorem zmo_9_45 : zmok 9 45 (yX9_blanks, cX9_blanks, 1, (none : Option FieldType), [], zk_9_45) (1387, 1386, 38, 116) = true := by decide +kernel
theorem zmo_9_46 : zmok 9 46 (yX9_letters, cX9_letters, 1, (none : Option FieldType), [], zk_9_46) (1395, 1394, 40, 116) = true := by decide +kernel
theorem zmo_9_47 : zmok 9 47 (yX9_isWord, cX9_isWord, 4, (some FieldType.boolean), [], zk_9_47) (1404, 1403, 42, 116) = true := by decide +kernel
theorem zmo_9_48 : zmok 9 48 (yX9_passesSign, cX9_passesSign, 2, (some FieldType.boolean), [], zk_9_48) (1449, 1448, 50, 116) = true := by decide +kernel
theorem zmo_9_49 : zmok 9 49 (yX9_number, cX9_number, 4, (some FieldType.int), [], zk_9_49) (1445, 1444, 49, 116) = true := by decide +kernel
theorem zmo_9_50 : zmok 9 50 (yX9_readTo, cX9_readTo, 5, (some FieldType.boolean), [], zk_9_50) (1441, 1440, 48, 116) = true := by decide +kernel
theorem zmo_9_51 : zmok 9 51 (yX9_kindHere, cX9_kindHere, 1, (some FieldType.int), [], zk_9_51) (1425, 1424, 46, 116) = true := by decide +kernel
theorem zmo_9_52 : zmok 9 52 (yX9_readDeed, cX9_readDeed, 4, (some FieldType.boolean), [], zk_9_52) (1421, 1420, 45, 116) = true := by decide +kernel
theorem zmo_9_53 : zmok 9 53 (yX9_readThread, cX9_readThread, 3, (some FieldType.boolean), [], zk_9_53) (1410, 1409, 43, 116) = true := by decide +kernel
theorem zmo_9_54 : zmok 9 54 (yX9_readWordLine, cX9_readWordLine, 3, (some FieldType.boolean), [], zk_9_54) (1454, 1453, 51, 116) = true := by decide +kernel
theorem zmo_9_55 : zmok 9 55 (yX9_readLock, cX9_readLock, 5, (some FieldType.boolean), [], zk_9_55) (1459, 1458, 52, 116) = true := by decide +kernel
theorem zmo_9_56 : zmok 9 56 (yX9_readTrust, cX9_readTrust, 3, (some FieldType.boolean), [], zk_9_56) (1465, 1464, 53, 116) = true := by decide +kernel
theorem zmo_9_57 : zmok 9 57 (yX9_leastOf, cX9_leastOf, 1, (some FieldType.int), [], zk_9_57) (1482, 1481, 0, 116) = true := by decide +kernel
theorem zmo_9_58 : zmok 9 58 (yX9_mostOf, cX9_mostOf, 1, (some FieldType.int), [], zk_9_58) (1485, 1484, 0, 116) = true := by decide +kernel
theorem zmo_9_59 : zmok 9 59 (yX9_termHere, cX9_termHere, 1, (some FieldType.int), [], zk_9_59) (1472, 1471, 54, 116) = true := by decide +kernel
theorem zmo_9_60 : zmok 9 60 (yX9_readLine, cX9_readLine, 2, (some FieldType.boolean), [], zk_9_60) (1399, 1398, 41, 116) = true := by decide +kernel
theorem zmo_9_61 : zmok 9 61 (yX9_readText, cX9_readText, 2, (some FieldType.boolean), [], zk_9_61) (1383, 1382, 37, 116) = true := by decide +kernel
theorem zmo_9_62 : zmok 9 62 (yX9_machine, cX9_machine, 2, (some FieldType.int), [], zk_9_62) (1379, 1377, 1378, 116) = true := by decide +kernel
theorem zmo_9_63 : zmok 9 63 (yX9_noThread, cX9_noThread, 2, (some FieldType.boolean), [], zk_9_63) (1497, 1496, 56, 116) = true := by decide +kernel
theorem zmo_9_64 : zmok 9 64 (yX9_step, cX9_step, 2, (some FieldType.int), [], zk_9_64) (1493, 1491, 1492, 116) = true := by decide +kernel
theorem zmo_9_65 : zmok 9 65 (yX9_goes, cX9_goes, 5, (some FieldType.int), [], zk_9_65) (1613, 1612, 81, 116) = true := by decide +kernel
theorem zmo_9_66 : zmok 9 66 (yX9_run, cX9_run, 2, (some FieldType.int), [], zk_9_66) (1609, 1607, 1608, 116) = true := by decide +kernel
theorem zmo_9_67 : zmok 9 67 (yX9_chance, cX9_chance, 2, (some FieldType.int), [], zk_9_67) (1638, 1636, 1637, 116) = true := by decide +kernel
theorem zmo_9_68 : zmok 9 68 (yX9_poke, cX9_poke, 5, (some FieldType.int), [], zk_9_68) (1642, 1640, 1641, 116) = true := by decide +kernel
theorem zmo_9_69 : zmok 9 69 (yX9_tune, cX9_tune, 4, (some FieldType.int), [], zk_9_69) (1646, 1644, 1645, 116) = true := by decide +kernel
theorem zmo_9_70 : zmok 9 70 (yX9_seed, cX9_seed, 3, (some FieldType.int), [], zk_9_70) (1650, 1648, 1649, 116) = true := by decide +kernel
theorem zmo_9_71 : zmok 9 71 (yX9_fellOf, cX9_fellOf, 4, (some FieldType.int), [], zk_9_71) (1658, 1657, 87, 116) = true := by decide +kernel
theorem zmo_9_72 : zmok 9 72 (yX9_thread, cX9_thread, 3, (some FieldType.int), [], zk_9_72) (1654, 1652, 1653, 116) = true := by decide +kernel
theorem zmo_9_73 : zmok 9 73 (yX9_leftOut, cX9_leftOut, 3, (some FieldType.int), [], zk_9_73) (1662, 1660, 1661, 116) = true := by decide +kernel
theorem zmo_9_74 : zmok 9 74 (yX9_blocks, cX9_blocks, 3, (some FieldType.int), [], zk_9_74) (1666, 1664, 1665, 116) = true := by decide +kernel
theorem zmo_9_75 : zmok 9 75 (yX9_fell, cX9_fell, 5, (some FieldType.int), [], zk_9_75) (1670, 1668, 1669, 116) = true := by decide +kernel
theorem zmo_9_76 : zmok 9 76 (yX9_noWord, cX9_noWord, 2, (some FieldType.boolean), [], zk_9_76) (1678, 1677, 88, 116) = true := by decide +kernel
theorem zmo_9_77 : zmok 9 77 (yX9_word, cX9_word, 2, (some FieldType.int), [], zk_9_77) (1674, 1672, 1673, 116) = true := by decide +kernel
theorem zmo_9_78 : zmok 9 78 (yX9_sees, cX9_sees, 3, (some FieldType.int), [], zk_9_78) (1682, 1680, 1681, 116) = true := by decide +kernel
theorem zmo_9_79 : zmok 9 79 (yX9_leavers, cX9_leavers, 4, (some FieldType.int), [], zk_9_79) (1690, 1689, 89, 116) = true := by decide +kernel
theorem zmo_9_80 : zmok 9 80 (yX9_lock, cX9_lock, 3, (some FieldType.int), [], zk_9_80) (1686, 1684, 1685, 116) = true := by decide +kernel
theorem zmo_9_81 : zmok 9 81 (yX9_term, cX9_term, 2, (some FieldType.int), [], zk_9_81) (1694, 1692, 1693, 116) = true := by decide +kernel
theorem zmo_9_82 : zmok 9 82 (yX9_deed, cX9_deed, 4, (some FieldType.int), [], zk_9_82) (1698, 1696, 1697, 116) = true := by decide +kernel
theorem zmo_9_83 : zmok 9 83 (yX9_output, cX9_output, 3, (some FieldType.int), [], zk_9_83) (1702, 1700, 1701, 116) = true := by decide +kernel
theorem zmo_9_84 : zmok 9 84 (yX9_log, cX9_log, 3, (some FieldType.int), [], zk_9_84) (1706, 1704, 1705, 116) = true := by decide +kernel
theorem zmo_9_85 : zmok 9 85 (yX9_guessing, cX9_guessing, 3, (some FieldType.int), [], zk_9_85) (1714, 1713, 90, 116) = true := by decide +kernel
theorem zmo_9_86 : zmok 9 86 (yX9_keptAll, cX9_keptAll, 3, (some FieldType.int), [], zk_9_86) (1718, 1717, 91, 116) = true := by decide +kernel
theorem zmo_9_87 : zmok 9 87 (yX9_heldLocks, cX9_heldLocks, 3, (some FieldType.int), [], zk_9_87) (1722, 1721, 92, 116) = true := by decide +kernel
theorem zmo_9_88 : zmok 9 88 (yX9_count, cX9_count, 2, (some FieldType.int), [], zk_9_88) (1710, 1708, 1709, 116) = true := by decide +kernel
theorem zmo_9_89 : zmok 9 89 (yX9_dueOf, cX9_dueOf, 3, (some FieldType.int), [], zk_9_89) (1730, 1729, 93, 116) = true := by decide +kernel
theorem zmo_9_90 : zmok 9 90 (yX9_due, cX9_due, 3, (some FieldType.int), [], zk_9_90) (1726, 1724, 1725, 116) = true := by decide +kernel
theorem zmo_9_91 : zmok 9 91 (yX9_dueBy, cX9_dueBy, 3, (some FieldType.int), [], zk_9_91) (1738, 1737, 94, 116) = true := by decide +kernel
theorem zmo_9_92 : zmok 9 92 (yX9_quickest, cX9_quickest, 6, (some FieldType.int), [], zk_9_92) (1734, 1732, 1733, 116) = true := by decide +kernel
theorem zmo_9_93 : zmok 9 93 (yX9_plain, cX9_plain, 1, (some FieldType.int), [], zk_9_93) (1742, 1740, 1741, 116) = true := by decide +kernel
theorem zmo_9_94 : zmok 9 94 (yX9_touched, cX9_touched, 9, (some FieldType.int), [], zk_9_94) (1750, 1749, 95, 116) = true := by decide +kernel
theorem zmo_9_95 : zmok 9 95 (yX9_touches, cX9_touches, 3, (some FieldType.int), [], zk_9_95) (1746, 1744, 1745, 116) = true := by decide +kernel
theorem zmo_9_96 : zmok 9 96 (yX9_rivals, cX9_rivals, 3, (some FieldType.int), [], zk_9_96) (1754, 1752, 1753, 116) = true := by decide +kernel
theorem zmo_9_97 : zmok 9 97 (yX9_heldBehind, cX9_heldBehind, 6, (some FieldType.int), [], zk_9_97) (1762, 1761, 96, 116) = true := by decide +kernel
theorem zmo_9_98 : zmok 9 98 (yX9_nest, cX9_nest, 5, (some FieldType.int), [], zk_9_98) (1758, 1756, 1757, 116) = true := by decide +kernel
theorem zmo_9_99 : zmok 9 99 (yX9_behindPart, cX9_behindPart, 5, (some FieldType.int), [], zk_9_99) (1774, 1773, 98, 116) = true := by decide +kernel
theorem zmo_9_100 : zmok 9 100 (yX9_partsOf, cX9_partsOf, 4, (some FieldType.int), [], zk_9_100) (1770, 1769, 97, 116) = true := by decide +kernel
theorem zmo_9_101 : zmok 9 101 (yX9_parts, cX9_parts, 2, (some FieldType.int), [], zk_9_101) (1766, 1764, 1765, 116) = true := by decide +kernel
theorem zmo_9_102 : zmok 9 102 (yX9_doesDeed, cX9_doesDeed, 6, (some FieldType.boolean), [], zk_9_102) (1790, 1789, 101, 116) = true := by decide +kernel
theorem zmo_9_103 : zmok 9 103 (yX9_putsWhole, cX9_putsWhole, 4, (none : Option FieldType), [], zk_9_103) (1794, 1793, 102, 116) = true := by decide +kernel
theorem zmo_9_104 : zmok 9 104 (yX9_isAsNow, cX9_isAsNow, 4, (some FieldType.boolean), [], zk_9_104) (1786, 1785, 100, 116) = true := by decide +kernel
theorem zmo_9_105 : zmok 9 105 (yX9_orders, cX9_orders, 9, (some FieldType.boolean), [], zk_9_105) (1782, 1781, 99, 116) = true := by decide +kernel
theorem zmo_9_106 : zmok 9 106 (yX9_serial, cX9_serial, 4, (some FieldType.int), [], zk_9_106) (1778, 1776, 1777, 116) = true := by decide +kernel
theorem zmo_9_107 : zmok 9 107 (yX9_prints, cX9_prints, 3, (none : Option FieldType), [], zk_9_107) (1803, 1802, 103, 116) = true := by decide +kernel
theorem zmo_9_108 : zmok 9 108 (yX9_printsNumber, cX9_printsNumber, 2, (none : Option FieldType), [], zk_9_108) (1819, 1818, 105, 116) = true := by decide +kernel
theorem zmo_9_109 : zmok 9 109 (yX9_printsDeed, cX9_printsDeed, 3, (none : Option FieldType), [], zk_9_109) (1808, 1807, 104, 116) = true := by decide +kernel
theorem zmo_9_110 : zmok 9 110 (yX9_text, cX9_text, 3, (some FieldType.int), [], zk_9_110) (1798, 1796, 1797, 116) = true := by decide +kernel
theorem zmo_9_111 : zmok 9 111 (yX9_octet, cX9_octet, 2, (some FieldType.int), [], zk_9_111) (1823, 1821, 1822, 116) = true := by decide +kernel
theorem zmo_10_0 : zmok 10 0 (yL_machine, cL_machine, 3, (some FieldType.int), [(0, 8, 11, 13), (0, 8, 14, 15)], zk_10_0) (767, 766, 0, 106) = true := by decide +kernel
theorem zmo_10_1 : zmok 10 1 (yL_thread, cL_thread, 5, (some FieldType.int), [(0, 10, 13, 21), (0, 10, 17, 23)], zk_10_1) (986, 985, 0, 106) = true := by decide +kernel
theorem zmo_10_2 : zmok 10 2 (yL_leftOut, cL_leftOut, 5, (some FieldType.int), [(0, 10, 13, 21)], zk_10_2) (1037, 1036, 0, 106) = true := by decide +kernel
theorem zmo_10_3 : zmok 10 3 (yL_blocks, cL_blocks, 5, (some FieldType.int), [(0, 10, 13, 21), (0, 10, 17, 23)], zk_10_3) (1044, 1043, 0, 106) = true := by decide +kernel
theorem zmo_10_4 : zmok 10 4 (yL_fell, cL_fell, 5, (some FieldType.int), [(0, 10, 13, 21), (0, 10, 17, 23)], zk_10_4) (1055, 1054, 0, 106) = true := by decide +kernel
theorem zmo_10_5 : zmok 10 5 (yL_word, cL_word, 4, (some FieldType.int), [(0, 9, 12, 21)], zk_10_5) (1063, 1062, 0, 106) = true := by decide +kernel
theorem zmo_10_6 : zmok 10 6 (yL_sees, cL_sees, 5, (some FieldType.int), [(0, 10, 13, 21)], zk_10_6) (1074, 1073, 0, 106) = true := by decide +kernel
theorem zmo_10_7 : zmok 10 7 (yL_lock, cL_lock, 5, (some FieldType.int), [(0, 10, 13, 21), (0, 10, 17, 23)], zk_10_7) (1082, 1081, 0, 106) = true := by decide +kernel
theorem zmo_10_8 : zmok 10 8 (yL_term, cL_term, 4, (some FieldType.int), [(0, 9, 12, 23)], zk_10_8) (1096, 1095, 0, 106) = true := by decide +kernel
theorem zmo_10_9 : zmok 10 9 (yL_deed, cL_deed, 6, (some FieldType.int), [(0, 12, 15, 21), (0, 12, 19, 23)], zk_10_9) (1104, 1103, 0, 106) = true := by decide +kernel
theorem zmo_10_10 : zmok 10 10 (yL_step, cL_step, 4, (some FieldType.int), [(0, 9, 12, 21), (0, 9, 15, 54)], zk_10_10) (1113, 1112, 0, 106) = true := by decide +kernel
theorem zmo_10_11 : zmok 10 11 (yL_run, cL_run, 4, (some FieldType.int), [(0, 9, 12, 13)], zk_10_11) (1137, 1136, 0, 106) = true := by decide +kernel
theorem zmo_10_12 : zmok 10 12 (yL_chance, cL_chance, 4, (some FieldType.int), [(0, 9, 12, 13)], zk_10_12) (1162, 1161, 0, 106) = true := by decide +kernel
theorem zmo_10_13 : zmok 10 13 (yL_poke, cL_poke, 5, (some FieldType.int), [(0, 10, 13, 21), (0, 10, 17, 13)], zk_10_13) (1169, 1168, 0, 106) = true := by decide +kernel
theorem zmo_10_14 : zmok 10 14 (yL_tune, cL_tune, 5, (some FieldType.int), [(0, 10, 13, 23), (0, 10, 17, 13)], zk_10_14) (1178, 1177, 0, 106) = true := by decide +kernel
theorem zmo_10_15 : zmok 10 15 (yL_due, cL_due, 4, (some FieldType.int), [(0, 9, 12, 21)], zk_10_15) (1188, 1187, 0, 106) = true := by decide +kernel
theorem zmo_10_16 : zmok 10 16 (yL_quickest, cL_quickest, 4, (some FieldType.int), [(0, 9, 12, 23)], zk_10_16) (1195, 1194, 0, 106) = true := by decide +kernel
theorem zmo_10_17 : zmok 10 17 (yL_touches, cL_touches, 5, (some FieldType.int), [(0, 10, 13, 21), (0, 10, 17, 23)], zk_10_17) (1202, 1201, 0, 106) = true := by decide +kernel
theorem zmo_10_18 : zmok 10 18 (yL_rivals, cL_rivals, 5, (some FieldType.int), [(0, 10, 13, 21), (0, 10, 17, 13)], zk_10_18) (1213, 1212, 0, 106) = true := by decide +kernel
theorem zmo_10_19 : zmok 10 19 (yL_nest, cL_nest, 4, (some FieldType.int), [(0, 9, 12, 21)], zk_10_19) (1221, 1220, 0, 106) = true := by decide +kernel
theorem zmo_10_20 : zmok 10 20 (yL_parts, cL_parts, 4, (some FieldType.int), [(0, 9, 12, 21)], zk_10_20) (1234, 1233, 0, 106) = true := by decide +kernel
theorem zmo_10_21 : zmok 10 21 (yL_output, cL_output, 5, (some FieldType.int), [(0, 10, 13, 23)], zk_10_21) (1242, 1241, 0, 106) = true := by decide +kernel
theorem zmo_10_22 : zmok 10 22 (yL_log, cL_log, 5, (some FieldType.int), [(0, 10, 13, 23)], zk_10_22) (1249, 1248, 0, 106) = true := by decide +kernel
theorem zmo_10_23 : zmok 10 23 (yL_text, cL_text, 4, (some FieldType.int), [(0, 9, 12, 21)], zk_10_23) (1264, 1263, 0, 106) = true := by decide +kernel
theorem zmo_11_0 : zmok 11 0 (yJ6_bitCount_0f7a4, cJ6_bitCount_0f7a4, 1, (some FieldType.int), [], zk_11_0) (584, 583, 0, 131) = true := by decide +kernel
theorem zmt_0 {i : Nat} {q : zMt} {pl : Nat × Nat × Nat × Nat} (h1 : (zmc_0)[i]? = some q) (h2 : (zpl 0)[i]? = some pl) : zmok 0 i q pl = true := by
  match i, h1, h2 with
  | 0, h1, h2 => cases h1; cases h2; exact zmo_0_0
  | 1, h1, h2 => cases h1; cases h2; exact zmo_0_1
  | 2, h1, h2 => cases h1; cases h2; exact zmo_0_2
  | 3, h1, h2 => cases h1; cases h2; exact zmo_0_3
  | 4, h1, h2 => cases h1; cases h2; exact zmo_0_4
  | 5, h1, h2 => cases h1; cases h2; exact zmo_0_5
  | 6, h1, h2 => cases h1; cases h2; exact zmo_0_6
  | 7, h1, h2 => cases h1; cases h2; exact zmo_0_7
  | 8, h1, h2 => cases h1; cases h2; exact zmo_0_8
  | k + 9, h1, _ => exact absurd (List.getElem?_eq_some_iff.mp h1).1 (by simp [zmc_0])
theorem zmt_1 {i : Nat} {q : zMt} {pl : Nat × Nat × Nat × Nat} (h1 : (zmc_1)[i]? = some q) (h2 : (zpl 1)[i]? = some pl) : zmok 1 i q pl = true := by
  match i, h1, h2 with
  | 0, h1, h2 => cases h1; cases h2; exact zmo_1_0
  | 1, h1, h2 => cases h1; cases h2; exact zmo_1_1
  | 2, h1, h2 => cases h1; cases h2; exact zmo_1_2
  | 3, h1, h2 => cases h1; cases h2; exact zmo_1_3
  | k + 4, h1, _ => exact absurd (List.getElem?_eq_some_iff.mp h1).1 (by simp [zmc_1])
theorem zmt_2 {i : Nat} {q : zMt} {pl : Nat × Nat × Nat × Nat} (h1 : (zmc_2)[i]? = some q) (h2 : (zpl 2)[i]? = some pl) : zmok 2 i q pl = true := by
  match i, h1, h2 with
  | 0, h1, h2 => cases h1; cases h2; exact zmo_2_0
  | 1, h1, h2 => cases h1; cases h2; exact zmo_2_1
  | 2, h1, h2 => cases h1; cases h2; exact zmo_2_2
  | 3, h1, h2 => cases h1; cases h2; exact zmo_2_3
  | k + 4, h1, _ => exact absurd (List.getElem?_eq_some_iff.mp h1).1 (by simp [zmc_2])
theorem zmt_3 {i : Nat} {q : zMt} {pl : Nat × Nat × Nat × Nat} (h1 : (zmc_3)[i]? = some q) (h2 : (zpl 3)[i]? = some pl) : zmok 3 i q pl = true := by
  match i, h1, h2 with
  | 0, h1, h2 => cases h1; cases h2; exact zmo_3_0
  | 1, h1, h2 => cases h1; cases h2; exact zmo_3_1
  | 2, h1, h2 => cases h1; cases h2; exact zmo_3_2
  | 3, h1, h2 => cases h1; cases h2; exact zmo_3_3
  | 4, h1, h2 => cases h1; cases h2; exact zmo_3_4
  | 5, h1, h2 => cases h1; cases h2; exact zmo_3_5
  | 6, h1, h2 => cases h1; cases h2; exact zmo_3_6
  | 7, h1, h2 => cases h1; cases h2; exact zmo_3_7
  | 8, h1, h2 => cases h1; cases h2; exact zmo_3_8
  | 9, h1, h2 => cases h1; cases h2; exact zmo_3_9
  | 10, h1, h2 => cases h1; cases h2; exact zmo_3_10
  | 11, h1, h2 => cases h1; cases h2; exact zmo_3_11
  | 12, h1, h2 => cases h1; cases h2; exact zmo_3_12
  | 13, h1, h2 => cases h1; cases h2; exact zmo_3_13
  | 14, h1, h2 => cases h1; cases h2; exact zmo_3_14
  | 15, h1, h2 => cases h1; cases h2; exact zmo_3_15
  | 16, h1, h2 => cases h1; cases h2; exact zmo_3_16
  | 17, h1, h2 => cases h1; cases h2; exact zmo_3_17
  | 18, h1, h2 => cases h1; cases h2; exact zmo_3_18
  | 19, h1, h2 => cases h1; cases h2; exact zmo_3_19
  | 20, h1, h2 => cases h1; cases h2; exact zmo_3_20
  | 21, h1, h2 => cases h1; cases h2; exact zmo_3_21
  | 22, h1, h2 => cases h1; cases h2; exact zmo_3_22
  | 23, h1, h2 => cases h1; cases h2; exact zmo_3_23
  | 24, h1, h2 => cases h1; cases h2; exact zmo_3_24
  | 25, h1, h2 => cases h1; cases h2; exact zmo_3_25
  | 26, h1, h2 => cases h1; cases h2; exact zmo_3_26
  | 27, h1, h2 => cases h1; cases h2; exact zmo_3_27
  | 28, h1, h2 => cases h1; cases h2; exact zmo_3_28
  | 29, h1, h2 => cases h1; cases h2; exact zmo_3_29
  | 30, h1, h2 => cases h1; cases h2; exact zmo_3_30
  | 31, h1, h2 => cases h1; cases h2; exact zmo_3_31
  | k + 32, h1, _ => exact absurd (List.getElem?_eq_some_iff.mp h1).1 (by simp [zmc_3])
theorem zmt_4 {i : Nat} {q : zMt} {pl : Nat × Nat × Nat × Nat} (h1 : (zmc_4)[i]? = some q) (h2 : (zpl 4)[i]? = some pl) : zmok 4 i q pl = true := by
  match i, h1, h2 with
  | 0, h1, h2 => cases h1; cases h2; exact zmo_4_0
  | 1, h1, h2 => cases h1; cases h2; exact zmo_4_1
  | 2, h1, h2 => cases h1; cases h2; exact zmo_4_2
  | 3, h1, h2 => cases h1; cases h2; exact zmo_4_3
  | 4, h1, h2 => cases h1; cases h2; exact zmo_4_4
  | 5, h1, h2 => cases h1; cases h2; exact zmo_4_5
  | 6, h1, h2 => cases h1; cases h2; exact zmo_4_6
  | 7, h1, h2 => cases h1; cases h2; exact zmo_4_7
  | 8, h1, h2 => cases h1; cases h2; exact zmo_4_8
  | k + 9, h1, _ => exact absurd (List.getElem?_eq_some_iff.mp h1).1 (by simp [zmc_4])
theorem zmt_5 {i : Nat} {q : zMt} {pl : Nat × Nat × Nat × Nat} (h1 : (zmc_5)[i]? = some q) (h2 : (zpl 5)[i]? = some pl) : zmok 5 i q pl = true := by
  match i, h1, h2 with
  | 0, h1, h2 => cases h1; cases h2; exact zmo_5_0
  | 1, h1, h2 => cases h1; cases h2; exact zmo_5_1
  | 2, h1, h2 => cases h1; cases h2; exact zmo_5_2
  | 3, h1, h2 => cases h1; cases h2; exact zmo_5_3
  | 4, h1, h2 => cases h1; cases h2; exact zmo_5_4
  | 5, h1, h2 => cases h1; cases h2; exact zmo_5_5
  | 6, h1, h2 => cases h1; cases h2; exact zmo_5_6
  | 7, h1, h2 => cases h1; cases h2; exact zmo_5_7
  | 8, h1, h2 => cases h1; cases h2; exact zmo_5_8
  | 9, h1, h2 => cases h1; cases h2; exact zmo_5_9
  | 10, h1, h2 => cases h1; cases h2; exact zmo_5_10
  | 11, h1, h2 => cases h1; cases h2; exact zmo_5_11
  | 12, h1, h2 => cases h1; cases h2; exact zmo_5_12
  | k + 13, h1, _ => exact absurd (List.getElem?_eq_some_iff.mp h1).1 (by simp [zmc_5])
theorem zmt_6 {i : Nat} {q : zMt} {pl : Nat × Nat × Nat × Nat} (h1 : (zmc_6)[i]? = some q) (h2 : (zpl 6)[i]? = some pl) : zmok 6 i q pl = true := by
  match i, h1, h2 with
  | 0, h1, h2 => cases h1; cases h2; exact zmo_6_0
  | 1, h1, h2 => cases h1; cases h2; exact zmo_6_1
  | 2, h1, h2 => cases h1; cases h2; exact zmo_6_2
  | 3, h1, h2 => cases h1; cases h2; exact zmo_6_3
  | 4, h1, h2 => cases h1; cases h2; exact zmo_6_4
  | 5, h1, h2 => cases h1; cases h2; exact zmo_6_5
  | 6, h1, h2 => cases h1; cases h2; exact zmo_6_6
  | 7, h1, h2 => cases h1; cases h2; exact zmo_6_7
  | 8, h1, h2 => cases h1; cases h2; exact zmo_6_8
  | 9, h1, h2 => cases h1; cases h2; exact zmo_6_9
  | 10, h1, h2 => cases h1; cases h2; exact zmo_6_10
  | 11, h1, h2 => cases h1; cases h2; exact zmo_6_11
  | k + 12, h1, _ => exact absurd (List.getElem?_eq_some_iff.mp h1).1 (by simp [zmc_6])
theorem zmt_7 {i : Nat} {q : zMt} {pl : Nat × Nat × Nat × Nat} (h1 : (zmc_7)[i]? = some q) (h2 : (zpl 7)[i]? = some pl) : zmok 7 i q pl = true := by
  match i, h1, h2 with
  | 0, h1, h2 => cases h1; cases h2; exact zmo_7_0
  | 1, h1, h2 => cases h1; cases h2; exact zmo_7_1
  | 2, h1, h2 => cases h1; cases h2; exact zmo_7_2
  | 3, h1, h2 => cases h1; cases h2; exact zmo_7_3
  | 4, h1, h2 => cases h1; cases h2; exact zmo_7_4
  | 5, h1, h2 => cases h1; cases h2; exact zmo_7_5
  | k + 6, h1, _ => exact absurd (List.getElem?_eq_some_iff.mp h1).1 (by simp [zmc_7])
theorem zmt_8 {i : Nat} {q : zMt} {pl : Nat × Nat × Nat × Nat} (h1 : (zmc_8)[i]? = some q) (h2 : (zpl 8)[i]? = some pl) : zmok 8 i q pl = true := by
  match i, h1, h2 with
  | 0, h1, h2 => cases h1; cases h2; exact zmo_8_0
  | 1, h1, h2 => cases h1; cases h2; exact zmo_8_1
  | 2, h1, h2 => cases h1; cases h2; exact zmo_8_2
  | 3, h1, h2 => cases h1; cases h2; exact zmo_8_3
  | 4, h1, h2 => cases h1; cases h2; exact zmo_8_4
  | 5, h1, h2 => cases h1; cases h2; exact zmo_8_5
  | 6, h1, h2 => cases h1; cases h2; exact zmo_8_6
  | 7, h1, h2 => cases h1; cases h2; exact zmo_8_7
  | 8, h1, h2 => cases h1; cases h2; exact zmo_8_8
  | 9, h1, h2 => cases h1; cases h2; exact zmo_8_9
  | 10, h1, h2 => cases h1; cases h2; exact zmo_8_10
  | 11, h1, h2 => cases h1; cases h2; exact zmo_8_11
  | 12, h1, h2 => cases h1; cases h2; exact zmo_8_12
  | 13, h1, h2 => cases h1; cases h2; exact zmo_8_13
  | 14, h1, h2 => cases h1; cases h2; exact zmo_8_14
  | 15, h1, h2 => cases h1; cases h2; exact zmo_8_15
  | 16, h1, h2 => cases h1; cases h2; exact zmo_8_16
  | 17, h1, h2 => cases h1; cases h2; exact zmo_8_17
  | 18, h1, h2 => cases h1; cases h2; exact zmo_8_18
  | 19, h1, h2 => cases h1; cases h2; exact zmo_8_19
  | 20, h1, h2 => cases h1; cases h2; exact zmo_8_20
  | 21, h1, h2 => cases h1; cases h2; exact zmo_8_21
  | 22, h1, h2 => cases h1; cases h2; exact zmo_8_22
  | 23, h1, h2 => cases h1; cases h2; exact zmo_8_23
  | 24, h1, h2 => cases h1; cases h2; exact zmo_8_24
  | 25, h1, h2 => cases h1; cases h2; exact zmo_8_25
  | 26, h1, h2 => cases h1; cases h2; exact zmo_8_26
  | 27, h1, h2 => cases h1; cases h2; exact zmo_8_27
  | 28, h1, h2 => cases h1; cases h2; exact zmo_8_28
  | 29, h1, h2 => cases h1; cases h2; exact zmo_8_29
  | 30, h1, h2 => cases h1; cases h2; exact zmo_8_30
  | 31, h1, h2 => cases h1; cases h2; exact zmo_8_31
  | 32, h1, h2 => cases h1; cases h2; exact zmo_8_32
  | 33, h1, h2 => cases h1; cases h2; exact zmo_8_33
  | 34, h1, h2 => cases h1; cases h2; exact zmo_8_34
  | 35, h1, h2 => cases h1; cases h2; exact zmo_8_35
  | 36, h1, h2 => cases h1; cases h2; exact zmo_8_36
  | 37, h1, h2 => cases h1; cases h2; exact zmo_8_37
  | 38, h1, h2 => cases h1; cases h2; exact zmo_8_38
  | 39, h1, h2 => cases h1; cases h2; exact zmo_8_39
  | 40, h1, h2 => cases h1; cases h2; exact zmo_8_40
  | 41, h1, h2 => cases h1; cases h2; exact zmo_8_41
  | k + 42, h1, _ => exact absurd (List.getElem?_eq_some_iff.mp h1).1 (by simp [zmc_8])
theorem zmt_9 {i : Nat} {q : zMt} {pl : Nat × Nat × Nat × Nat} (h1 : (zmc_9)[i]? = some q) (h2 : (zpl 9)[i]? = some pl) : zmok 9 i q pl = true := by
  match i, h1, h2 with
  | 0, h1, h2 => cases h1; cases h2; exact zmo_9_0
  | 1, h1, h2 => cases h1; cases h2; exact zmo_9_1
  | 2, h1, h2 => cases h1; cases h2; exact zmo_9_2
  | 3, h1, h2 => cases h1; cases h2; exact zmo_9_3
  | 4, h1, h2 => cases h1; cases h2; exact zmo_9_4
  | 5, h1, h2 => cases h1; cases h2; exact zmo_9_5
  | 6, h1, h2 => cases h1; cases h2; exact zmo_9_6
  | 7, h1, h2 => cases h1; cases h2; exact zmo_9_7
  | 8, h1, h2 => cases h1; cases h2; exact zmo_9_8
  | 9, h1, h2 => cases h1; cases h2; exact zmo_9_9
  | 10, h1, h2 => cases h1; cases h2; exact zmo_9_10
  | 11, h1, h2 => cases h1; cases h2; exact zmo_9_11
  | 12, h1, h2 => cases h1; cases h2; exact zmo_9_12
  | 13, h1, h2 => cases h1; cases h2; exact zmo_9_13
  | 14, h1, h2 => cases h1; cases h2; exact zmo_9_14
  | 15, h1, h2 => cases h1; cases h2; exact zmo_9_15
  | 16, h1, h2 => cases h1; cases h2; exact zmo_9_16
  | 17, h1, h2 => cases h1; cases h2; exact zmo_9_17
  | 18, h1, h2 => cases h1; cases h2; exact zmo_9_18
  | 19, h1, h2 => cases h1; cases h2; exact zmo_9_19
  | 20, h1, h2 => cases h1; cases h2; exact zmo_9_20
  | 21, h1, h2 => cases h1; cases h2; exact zmo_9_21
  | 22, h1, h2 => cases h1; cases h2; exact zmo_9_22
  | 23, h1, h2 => cases h1; cases h2; exact zmo_9_23
  | 24, h1, h2 => cases h1; cases h2; exact zmo_9_24
  | 25, h1, h2 => cases h1; cases h2; exact zmo_9_25
  | 26, h1, h2 => cases h1; cases h2; exact zmo_9_26
  | 27, h1, h2 => cases h1; cases h2; exact zmo_9_27
  | 28, h1, h2 => cases h1; cases h2; exact zmo_9_28
  | 29, h1, h2 => cases h1; cases h2; exact zmo_9_29
  | 30, h1, h2 => cases h1; cases h2; exact zmo_9_30
  | 31, h1, h2 => cases h1; cases h2; exact zmo_9_31
  | 32, h1, h2 => cases h1; cases h2; exact zmo_9_32
  | 33, h1, h2 => cases h1; cases h2; exact zmo_9_33
  | 34, h1, h2 => cases h1; cases h2; exact zmo_9_34
  | 35, h1, h2 => cases h1; cases h2; exact zmo_9_35
  | 36, h1, h2 => cases h1; cases h2; exact zmo_9_36
  | 37, h1, h2 => cases h1; cases h2; exact zmo_9_37
  | 38, h1, h2 => cases h1; cases h2; exact zmo_9_38
  | 39, h1, h2 => cases h1; cases h2; exact zmo_9_39
  | 40, h1, h2 => cases h1; cases h2; exact zmo_9_40
  | 41, h1, h2 => cases h1; cases h2; exact zmo_9_41
  | 42, h1, h2 => cases h1; cases h2; exact zmo_9_42
  | 43, h1, h2 => cases h1; cases h2; exact zmo_9_43
  | 44, h1, h2 => cases h1; cases h2; exact zmo_9_44
  | 45, h1, h2 => cases h1; cases h2; exact zmo_9_45
  | 46, h1, h2 => cases h1; cases h2; exact zmo_9_46
  | 47, h1, h2 => cases h1; cases h2; exact zmo_9_47
  | 48, h1, h2 => cases h1; cases h2; exact zmo_9_48
  | 49, h1, h2 => cases h1; cases h2; exact zmo_9_49
  | 50, h1, h2 => cases h1; cases h2; exact zmo_9_50
  | 51, h1, h2 => cases h1; cases h2; exact zmo_9_51
  | 52, h1, h2 => cases h1; cases h2; exact zmo_9_52
  | 53, h1, h2 => cases h1; cases h2; exact zmo_9_53
  | 54, h1, h2 => cases h1; cases h2; exact zmo_9_54
  | 55, h1, h2 => cases h1; cases h2; exact zmo_9_55
  | 56, h1, h2 => cases h1; cases h2; exact zmo_9_56
  | 57, h1, h2 => cases h1; cases h2; exact zmo_9_57
  | 58, h1, h2 => cases h1; cases h2; exact zmo_9_58
  | 59, h1, h2 => cases h1; cases h2; exact zmo_9_59
  | 60, h1, h2 => cases h1; cases h2; exact zmo_9_60
  | 61, h1, h2 => cases h1; cases h2; exact zmo_9_61
  | 62, h1, h2 => cases h1; cases h2; exact zmo_9_62
  | 63, h1, h2 => cases h1; cases h2; exact zmo_9_63
  | 64, h1, h2 => cases h1; cases h2; exact zmo_9_64
  | 65, h1, h2 => cases h1; cases h2; exact zmo_9_65
  | 66, h1, h2 => cases h1; cases h2; exact zmo_9_66
  | 67, h1, h2 => cases h1; cases h2; exact zmo_9_67
  | 68, h1, h2 => cases h1; cases h2; exact zmo_9_68
  | 69, h1, h2 => cases h1; cases h2; exact zmo_9_69
  | 70, h1, h2 => cases h1; cases h2; exact zmo_9_70
  | 71, h1, h2 => cases h1; cases h2; exact zmo_9_71
  | 72, h1, h2 => cases h1; cases h2; exact zmo_9_72
  | 73, h1, h2 => cases h1; cases h2; exact zmo_9_73
  | 74, h1, h2 => cases h1; cases h2; exact zmo_9_74
  | 75, h1, h2 => cases h1; cases h2; exact zmo_9_75
  | 76, h1, h2 => cases h1; cases h2; exact zmo_9_76
  | 77, h1, h2 => cases h1; cases h2; exact zmo_9_77
  | 78, h1, h2 => cases h1; cases h2; exact zmo_9_78
  | 79, h1, h2 => cases h1; cases h2; exact zmo_9_79
  | 80, h1, h2 => cases h1; cases h2; exact zmo_9_80
  | 81, h1, h2 => cases h1; cases h2; exact zmo_9_81
  | 82, h1, h2 => cases h1; cases h2; exact zmo_9_82
  | 83, h1, h2 => cases h1; cases h2; exact zmo_9_83
  | 84, h1, h2 => cases h1; cases h2; exact zmo_9_84
  | 85, h1, h2 => cases h1; cases h2; exact zmo_9_85
  | 86, h1, h2 => cases h1; cases h2; exact zmo_9_86
  | 87, h1, h2 => cases h1; cases h2; exact zmo_9_87
  | 88, h1, h2 => cases h1; cases h2; exact zmo_9_88
  | 89, h1, h2 => cases h1; cases h2; exact zmo_9_89
  | 90, h1, h2 => cases h1; cases h2; exact zmo_9_90
  | 91, h1, h2 => cases h1; cases h2; exact zmo_9_91
  | 92, h1, h2 => cases h1; cases h2; exact zmo_9_92
  | 93, h1, h2 => cases h1; cases h2; exact zmo_9_93
  | 94, h1, h2 => cases h1; cases h2; exact zmo_9_94
  | 95, h1, h2 => cases h1; cases h2; exact zmo_9_95
  | 96, h1, h2 => cases h1; cases h2; exact zmo_9_96
  | 97, h1, h2 => cases h1; cases h2; exact zmo_9_97
  | 98, h1, h2 => cases h1; cases h2; exact zmo_9_98
  | 99, h1, h2 => cases h1; cases h2; exact zmo_9_99
  | 100, h1, h2 => cases h1; cases h2; exact zmo_9_100
  | 101, h1, h2 => cases h1; cases h2; exact zmo_9_101
  | 102, h1, h2 => cases h1; cases h2; exact zmo_9_102
  | 103, h1, h2 => cases h1; cases h2; exact zmo_9_103
  | 104, h1, h2 => cases h1; cases h2; exact zmo_9_104
  | 105, h1, h2 => cases h1; cases h2; exact zmo_9_105
  | 106, h1, h2 => cases h1; cases h2; exact zmo_9_106
  | 107, h1, h2 => cases h1; cases h2; exact zmo_9_107
  | 108, h1, h2 => cases h1; cases h2; exact zmo_9_108
  | 109, h1, h2 => cases h1; cases h2; exact zmo_9_109
  | 110, h1, h2 => cases h1; cases h2; exact zmo_9_110
  | 111, h1, h2 => cases h1; cases h2; exact zmo_9_111
  | k + 112, h1, _ => exact absurd (List.getElem?_eq_some_iff.mp h1).1 (by simp [zmc_9])
theorem zmt_10 {i : Nat} {q : zMt} {pl : Nat × Nat × Nat × Nat} (h1 : (zmc_10)[i]? = some q) (h2 : (zpl 10)[i]? = some pl) (h3 : i ≠ 24) : zmok 10 i q pl = true := by
  match i, h1, h2, h3 with
  | 0, h1, h2, _ => cases h1; cases h2; exact zmo_10_0
  | 1, h1, h2, _ => cases h1; cases h2; exact zmo_10_1
  | 2, h1, h2, _ => cases h1; cases h2; exact zmo_10_2
  | 3, h1, h2, _ => cases h1; cases h2; exact zmo_10_3
  | 4, h1, h2, _ => cases h1; cases h2; exact zmo_10_4
  | 5, h1, h2, _ => cases h1; cases h2; exact zmo_10_5
  | 6, h1, h2, _ => cases h1; cases h2; exact zmo_10_6
  | 7, h1, h2, _ => cases h1; cases h2; exact zmo_10_7
  | 8, h1, h2, _ => cases h1; cases h2; exact zmo_10_8
  | 9, h1, h2, _ => cases h1; cases h2; exact zmo_10_9
  | 10, h1, h2, _ => cases h1; cases h2; exact zmo_10_10
  | 11, h1, h2, _ => cases h1; cases h2; exact zmo_10_11
  | 12, h1, h2, _ => cases h1; cases h2; exact zmo_10_12
  | 13, h1, h2, _ => cases h1; cases h2; exact zmo_10_13
  | 14, h1, h2, _ => cases h1; cases h2; exact zmo_10_14
  | 15, h1, h2, _ => cases h1; cases h2; exact zmo_10_15
  | 16, h1, h2, _ => cases h1; cases h2; exact zmo_10_16
  | 17, h1, h2, _ => cases h1; cases h2; exact zmo_10_17
  | 18, h1, h2, _ => cases h1; cases h2; exact zmo_10_18
  | 19, h1, h2, _ => cases h1; cases h2; exact zmo_10_19
  | 20, h1, h2, _ => cases h1; cases h2; exact zmo_10_20
  | 21, h1, h2, _ => cases h1; cases h2; exact zmo_10_21
  | 22, h1, h2, _ => cases h1; cases h2; exact zmo_10_22
  | 23, h1, h2, _ => cases h1; cases h2; exact zmo_10_23
  | 24, _, _, h3 => exact absurd rfl h3
  | k + 25, h1, _, _ => exact absurd (List.getElem?_eq_some_iff.mp h1).1 (by simp [zmc_10])
theorem zmt_11 {i : Nat} {q : zMt} {pl : Nat × Nat × Nat × Nat} (h1 : (zmc_11)[i]? = some q) (h2 : (zpl 11)[i]? = some pl) : zmok 11 i q pl = true := by
  match i, h1, h2 with
  | 0, h1, h2 => cases h1; cases h2; exact zmo_11_0
  | k + 1, h1, _ => exact absurd (List.getElem?_eq_some_iff.mp h1).1 (by simp [zmc_11])
end
section
theorem zmc_ge {c : Nat} (h : 13 ≤ c) : zmc c = [] := by unfold zmc; split <;> first | rfl | omega
def zcw (q : zMt) : Cond := if q.2.2.2.2.1 = [] then .code q.1 q.2.1 q.2.2.1 q.2.2.2.1 else .codeWith q.1 q.2.1 q.2.2.1 q.2.2.2.1 q.2.2.2.2.1
def zplj (j : Nat) : Option (Nat × Nat × Nat × Nat) := (zpl (j / 200))[j % 200]?
theorem zall_app {α : Type} {f : α → Bool} {a b : List α} (ha : a.all f = true) (hb : b.all f = true) : (a ++ b).all f = true := by rw [List.all_append, ha, hb]; rfl
/-- the calls of a class's pool -/
def zmpe (c : Nat) (e : Nat × Nat × Nat × Nat) : Bool := match zent e.2.2.1, zplj e.2.2.1 with
  | some q, some pl => (match e.2.1 with
    | 0 => decide (lw_tbl[e.2.2.2]? = some (.methodLink (zcn c) e.1 q.1)) && decide (lw_tbl[pl.2.1]? = some (.instanceMethod q.1)) && decide (lw_tbl[pl.2.2.1]? = some (.selects q.1.cls q.1 q.1)) && q.2.2.2.2.1.isEmpty && Nat.blt (e.2.2.1 / 200) 10
    | 1 => decide (lw_tbl[e.2.2.2]? = some (.methodLink (zcn c) e.1 q.1)) && decide (lw_tbl[pl.2.1]? = some (.static q.1)) && (e.2.2.1 != 2024)
    | 2 => decide (lw_tbl[e.2.2.2]? = some (.methodLink (zcn c) e.1 q.1)) && decide (lw_tbl[pl.2.1]? = some (.instanceMethod q.1)) && zini e.2.2.1 && q.2.2.2.2.1.isEmpty && decide (q.2.2.2.1 = none) && Nat.blt (e.2.2.1 / 200) 10
    | 3 => decide (Cond.methodLinkNest (zcn c) e.1 q.1 "ElidedLocks" ∈ zNs) && decide (lw_tbl[pl.2.1]? = some (.instanceMethod q.1)) && zini e.2.2.1 && q.2.2.2.2.1.isEmpty && decide (q.2.2.2.1 = none) && Nat.blt (e.2.2.1 / 200) 10
    | _ => true)
  | _, _ => (match e.2.1 with
    | 0 | 1 | 2 | 3 => false
    | _ => true)
theorem zmq_0_0 : ([(3, 4, 0, 190), (32, 5, 0, 519)] : List (Nat × Nat × Nat × Nat)).all (zmpe 0) = true := by decide +kernel
theorem zmq_0 : ∀ e ∈ zmp 0, zmpe 0 e = true := fun e h => List.all_eq_true.mp (show (([(3, 4, 0, 190), (32, 5, 0, 519)] : List (Nat × Nat × Nat × Nat))).all (zmpe 0) = true from zmq_0_0) e h
theorem zmq_1_0 : ([(3, 4, 0, 152)] : List (Nat × Nat × Nat × Nat)).all (zmpe 1) = true := by decide +kernel
theorem zmq_1 : ∀ e ∈ zmp 1, zmpe 1 e = true := fun e h => List.all_eq_true.mp (show (([(3, 4, 0, 152)] : List (Nat × Nat × Nat × Nat))).all (zmpe 1) = true from zmq_1_0) e h
theorem zmq_2_0 : ([(3, 4, 0, 290), (15, 5, 0, 524), (28, 1, 2400, 1259)] : List (Nat × Nat × Nat × Nat)).all (zmpe 2) = true := by decide +kernel
theorem zmq_2 : ∀ e ∈ zmp 2, zmpe 2 e = true := fun e h => List.all_eq_true.mp (show (([(3, 4, 0, 290), (15, 5, 0, 524), (28, 1, 2400, 1259)] : List (Nat × Nat × Nat × Nat))).all (zmpe 2) = true from zmq_2_0) e h
theorem zmq_3_0 : ([(3, 4, 0, 145), (23, 2, 200, 149), (32, 3, 1200, 181), (52, 3, 400, 287), (57, 5, 0, 503), (63, 0, 201, 506), (70, 0, 1201, 510), (82, 0, 401, 520), (112, 0, 608, 529), (108, 0, 602, 533), (116, 0, 1206, 537), (136, 0, 1205, 547)] : List (Nat × Nat × Nat × Nat)).all (zmpe 3) = true := by decide +kernel
theorem zmq_3_1 : ([(139, 0, 1204, 551), (142, 0, 614, 555), (183, 0, 603, 559), (158, 0, 620, 563), (203, 0, 604, 567), (85, 1, 2401, 571), (238, 0, 606, 574), (241, 0, 621, 578), (123, 1, 2200, 582), (176, 0, 624, 588), (274, 0, 203, 592), (231, 0, 3, 596)] : List (Nat × Nat × Nat × Nat)).all (zmpe 3) = true := by decide +kernel
theorem zmq_3_2 : ([(179, 0, 402, 600), (245, 0, 622, 604), (252, 0, 623, 608), (256, 0, 7, 612), (215, 0, 4, 616), (218, 0, 605, 620), (101, 0, 8, 624), (200, 0, 5, 628), (146, 0, 613, 632), (196, 0, 2, 636), (212, 0, 202, 640), (149, 0, 615, 644)] : List (Nat × Nat × Nat × Nat)).all (zmpe 3) = true := by decide +kernel
theorem zmq_3_3 : ([(224, 0, 6, 648), (227, 0, 616, 652), (152, 0, 617, 656), (162, 0, 618, 660), (166, 0, 619, 664), (170, 0, 612, 668), (120, 0, 627, 1154), (129, 0, 610, 1155)] : List (Nat × Nat × Nat × Nat)).all (zmpe 3) = true := by decide +kernel
theorem zmq_3 : ∀ e ∈ zmp 3, zmpe 3 e = true := fun e h => List.all_eq_true.mp (show (([(3, 4, 0, 145), (23, 2, 200, 149), (32, 3, 1200, 181), (52, 3, 400, 287), (57, 5, 0, 503), (63, 0, 201, 506), (70, 0, 1201, 510), (82, 0, 401, 520), (112, 0, 608, 529), (108, 0, 602, 533), (116, 0, 1206, 537), (136, 0, 1205, 547)] : List (Nat × Nat × Nat × Nat)) ++ (([(139, 0, 1204, 551), (142, 0, 614, 555), (183, 0, 603, 559), (158, 0, 620, 563), (203, 0, 604, 567), (85, 1, 2401, 571), (238, 0, 606, 574), (241, 0, 621, 578), (123, 1, 2200, 582), (176, 0, 624, 588), (274, 0, 203, 592), (231, 0, 3, 596)] : List (Nat × Nat × Nat × Nat)) ++ (([(179, 0, 402, 600), (245, 0, 622, 604), (252, 0, 623, 608), (256, 0, 7, 612), (215, 0, 4, 616), (218, 0, 605, 620), (101, 0, 8, 624), (200, 0, 5, 628), (146, 0, 613, 632), (196, 0, 2, 636), (212, 0, 202, 640), (149, 0, 615, 644)] : List (Nat × Nat × Nat × Nat)) ++ (([(224, 0, 6, 648), (227, 0, 616, 652), (152, 0, 617, 656), (162, 0, 618, 660), (166, 0, 619, 664), (170, 0, 612, 668), (120, 0, 627, 1154), (129, 0, 610, 1155)] : List (Nat × Nat × Nat × Nat)))))).all (zmpe 3) = true from (zall_app zmq_3_0 (zall_app zmq_3_1 (zall_app zmq_3_2 zmq_3_3)))) e h
theorem zmq_4_0 : ([(3, 4, 0, 407), (47, 0, 602, 680), (51, 0, 1211, 681), (57, 0, 607, 695), (67, 5, 0, 696), (73, 0, 804, 697), (76, 0, 808, 701), (83, 0, 805, 705), (86, 0, 1210, 709), (90, 0, 1204, 710), (93, 0, 1205, 711), (96, 0, 806, 712)] : List (Nat × Nat × Nat × Nat)).all (zmpe 4) = true := by decide +kernel
theorem zmq_4_1 : ([(100, 0, 603, 716), (109, 0, 807, 717)] : List (Nat × Nat × Nat × Nat)).all (zmpe 4) = true := by decide +kernel
theorem zmq_4 : ∀ e ∈ zmp 4, zmpe 4 e = true := fun e h => List.all_eq_true.mp (show (([(3, 4, 0, 407), (47, 0, 602, 680), (51, 0, 1211, 681), (57, 0, 607, 695), (67, 5, 0, 696), (73, 0, 804, 697), (76, 0, 808, 701), (83, 0, 805, 705), (86, 0, 1210, 709), (90, 0, 1204, 710), (93, 0, 1205, 711), (96, 0, 806, 712)] : List (Nat × Nat × Nat × Nat)) ++ (([(100, 0, 603, 716), (109, 0, 807, 717)] : List (Nat × Nat × Nat × Nat)))).all (zmpe 4) = true from (zall_app zmq_4_0 zmq_4_1)) e h
theorem zmq_5_0 : ([(3, 4, 0, 371), (19, 1, 2402, 778), (32, 0, 1009, 781), (38, 0, 1002, 785), (48, 0, 1011, 790), (134, 6, 0, 794), (139, 7, 0, 804), (52, 0, 1004, 842), (83, 0, 1012, 846), (86, 0, 603, 850), (55, 0, 1005, 851), (64, 0, 1006, 855)] : List (Nat × Nat × Nat × Nat)).all (zmpe 5) = true := by decide +kernel
theorem zmq_5_1 : ([(102, 0, 631, 860), (67, 0, 1003, 864), (71, 0, 1007, 872), (109, 0, 602, 876), (113, 0, 1202, 877), (118, 0, 1008, 882), (130, 0, 1203, 891), (42, 0, 1010, 895)] : List (Nat × Nat × Nat × Nat)).all (zmpe 5) = true := by decide +kernel
theorem zmq_5 : ∀ e ∈ zmp 5, zmpe 5 e = true := fun e h => List.all_eq_true.mp (show (([(3, 4, 0, 371), (19, 1, 2402, 778), (32, 0, 1009, 781), (38, 0, 1002, 785), (48, 0, 1011, 790), (134, 6, 0, 794), (139, 7, 0, 804), (52, 0, 1004, 842), (83, 0, 1012, 846), (86, 0, 603, 850), (55, 0, 1005, 851), (64, 0, 1006, 855)] : List (Nat × Nat × Nat × Nat)) ++ (([(102, 0, 631, 860), (67, 0, 1003, 864), (71, 0, 1007, 872), (109, 0, 602, 876), (113, 0, 1202, 877), (118, 0, 1008, 882), (130, 0, 1203, 891), (42, 0, 1010, 895)] : List (Nat × Nat × Nat × Nat)))).all (zmpe 5) = true from (zall_app zmq_5_0 zmq_5_1)) e h
theorem zmq_6_0 : ([(3, 4, 0, 184), (23, 3, 0, 187), (28, 5, 0, 514), (53, 0, 1, 515), (81, 0, 1210, 685), (64, 0, 1204, 689), (67, 0, 1208, 690), (60, 0, 1205, 694), (57, 0, 3, 881), (71, 1, 2200, 1230), (76, 1, 2401, 1231)] : List (Nat × Nat × Nat × Nat)).all (zmpe 6) = true := by decide +kernel
theorem zmq_6 : ∀ e ∈ zmp 6, zmpe 6 e = true := fun e h => List.all_eq_true.mp (show (([(3, 4, 0, 184), (23, 3, 0, 187), (28, 5, 0, 514), (53, 0, 1, 515), (81, 0, 1210, 685), (64, 0, 1204, 689), (67, 0, 1208, 690), (60, 0, 1205, 694), (57, 0, 3, 881), (71, 1, 2200, 1230), (76, 1, 2401, 1231)] : List (Nat × Nat × Nat × Nat))).all (zmpe 6) = true from zmq_6_0) e h
theorem zmq_7_0 : ([(3, 4, 0, 394), (21, 0, 1404, 1274), (46, 6, 0, 1278), (51, 7, 0, 1279), (30, 0, 1403, 1280), (36, 0, 1204, 1285), (40, 0, 1205, 1286), (43, 0, 1405, 1287)] : List (Nat × Nat × Nat × Nat)).all (zmpe 7) = true := by decide +kernel
theorem zmq_7 : ∀ e ∈ zmp 7, zmpe 7 e = true := fun e h => List.all_eq_true.mp (show (([(3, 4, 0, 394), (21, 0, 1404, 1274), (46, 6, 0, 1278), (51, 7, 0, 1279), (30, 0, 1403, 1280), (36, 0, 1204, 1285), (40, 0, 1205, 1286), (43, 0, 1405, 1287)] : List (Nat × Nat × Nat × Nat))).all (zmpe 7) = true from zmq_7_0) e h
theorem zmq_8_0 : ([(3, 4, 0, 137), (11, 3, 600, 142), (32, 2, 1000, 368), (41, 3, 1400, 391), (48, 2, 800, 404), (58, 0, 1602, 475), (251, 0, 1625, 495), (62, 0, 601, 499), (254, 0, 607, 525), (229, 0, 608, 541), (216, 0, 611, 543), (271, 0, 803, 676)] : List (Nat × Nat × Nat × Nat)).all (zmpe 8) = true := by decide +kernel
theorem zmq_8_1 : ([(274, 0, 802, 721), (302, 0, 1402, 729), (84, 0, 801, 741), (308, 0, 627, 749), (311, 0, 628, 753), (314, 0, 630, 757), (317, 0, 629, 761), (65, 0, 1001, 774), (87, 0, 1638, 993), (154, 0, 602, 1013), (109, 0, 1206, 1014), (118, 0, 1207, 1015)] : List (Nat × Nat × Nat × Nat)).all (zmpe 8) = true := by decide +kernel
theorem zmq_8_2 : ([(140, 1, 1640, 1049), (163, 1, 1639, 1068), (166, 0, 605, 1079), (175, 0, 603, 1088), (190, 0, 626, 1089), (201, 0, 1204, 1109), (204, 0, 1205, 1110), (219, 1, 1641, 1142), (222, 0, 1618, 1146), (226, 0, 609, 1150), (234, 0, 620, 1175), (257, 0, 625, 1207)] : List (Nat × Nat × Nat × Nat)).all (zmpe 8) = true := by decide +kernel
theorem zmq_8_3 : ([(262, 0, 1209, 1226), (265, 0, 1211, 1239), (292, 0, 403, 1255), (298, 0, 1401, 1269)] : List (Nat × Nat × Nat × Nat)).all (zmpe 8) = true := by decide +kernel
theorem zmq_8 : ∀ e ∈ zmp 8, zmpe 8 e = true := fun e h => List.all_eq_true.mp (show (([(3, 4, 0, 137), (11, 3, 600, 142), (32, 2, 1000, 368), (41, 3, 1400, 391), (48, 2, 800, 404), (58, 0, 1602, 475), (251, 0, 1625, 495), (62, 0, 601, 499), (254, 0, 607, 525), (229, 0, 608, 541), (216, 0, 611, 543), (271, 0, 803, 676)] : List (Nat × Nat × Nat × Nat)) ++ (([(274, 0, 802, 721), (302, 0, 1402, 729), (84, 0, 801, 741), (308, 0, 627, 749), (311, 0, 628, 753), (314, 0, 630, 757), (317, 0, 629, 761), (65, 0, 1001, 774), (87, 0, 1638, 993), (154, 0, 602, 1013), (109, 0, 1206, 1014), (118, 0, 1207, 1015)] : List (Nat × Nat × Nat × Nat)) ++ (([(140, 1, 1640, 1049), (163, 1, 1639, 1068), (166, 0, 605, 1079), (175, 0, 603, 1088), (190, 0, 626, 1089), (201, 0, 1204, 1109), (204, 0, 1205, 1110), (219, 1, 1641, 1142), (222, 0, 1618, 1146), (226, 0, 609, 1150), (234, 0, 620, 1175), (257, 0, 625, 1207)] : List (Nat × Nat × Nat × Nat)) ++ (([(262, 0, 1209, 1226), (265, 0, 1211, 1239), (292, 0, 403, 1255), (298, 0, 1401, 1269)] : List (Nat × Nat × Nat × Nat)))))).all (zmpe 8) = true from (zall_app zmq_8_0 (zall_app zmq_8_1 (zall_app zmq_8_2 zmq_8_3)))) e h
theorem zmq_9_0 : ([(7, 4, 0, 1300), (42, 1, 1806, 1357), (282, 0, 1861, 1380), (178, 0, 1845, 1384), (172, 0, 1844, 1388), (213, 0, 1846, 1392), (279, 0, 1860, 1396), (195, 0, 1847, 1401), (181, 6, 0, 1405), (186, 7, 0, 1406), (245, 0, 1853, 1407), (77, 0, 1809, 1411)] : List (Nat × Nat × Nat × Nat)).all (zmpe 9) = true := by decide +kernel
theorem zmq_9_1 : ([(50, 1, 1810, 1415), (222, 0, 1852, 1418), (216, 0, 1851, 1422), (54, 0, 1811, 1434), (219, 0, 1850, 1438), (190, 0, 1849, 1442), (225, 0, 1848, 1446), (251, 0, 1854, 1451), (256, 0, 1855, 1456), (261, 0, 1856, 1462), (270, 0, 1859, 1469), (273, 1, 1857, 1480)] : List (Nat × Nat × Nat × Nat)).all (zmpe 9) = true := by decide +kernel
theorem zmq_9_2 : ([(276, 1, 1858, 1483), (285, 0, 1801, 1486), (292, 0, 1863, 1494), (289, 1, 1802, 1498), (153, 0, 1812, 1501), (296, 0, 1835, 1506), (146, 0, 1813, 1510), (150, 0, 1834, 1514), (133, 0, 1829, 1518), (111, 0, 1823, 1522), (91, 0, 1814, 1526), (95, 0, 1819, 1530)] : List (Nat × Nat × Nat × Nat)).all (zmpe 9) = true := by decide +kernel
theorem zmq_9_3 : ([(99, 0, 1821, 1534), (85, 0, 1820, 1538), (81, 1, 1803, 1542), (88, 0, 1818, 1545), (70, 0, 1817, 1549), (57, 1, 2401, 1553), (62, 0, 1816, 1554), (66, 0, 1815, 1558), (114, 0, 1822, 1562), (117, 0, 1825, 1566), (120, 0, 1824, 1570), (102, 1, 1804, 1574)] : List (Nat × Nat × Nat × Nat)).all (zmpe 9) = true := by decide +kernel
theorem zmq_9_4 : ([(105, 0, 1826, 1577), (124, 0, 1827, 1581), (127, 0, 1828, 1585), (108, 1, 2402, 1589), (136, 0, 1831, 1590), (130, 0, 1830, 1594), (139, 0, 1832, 1598), (142, 0, 1833, 1602), (308, 0, 1865, 1610), (299, 0, 1837, 1614), (156, 0, 1836, 1618), (302, 0, 1840, 1622)] : List (Nat × Nat × Nat × Nat)).all (zmpe 9) = true := by decide +kernel
theorem zmq_9_5 : ([(160, 0, 1839, 1626), (305, 0, 1838, 1631), (312, 0, 1871, 1655), (315, 0, 1876, 1675), (318, 0, 1879, 1687), (321, 0, 1885, 1711), (324, 0, 1886, 1715), (327, 0, 1887, 1719), (330, 0, 1889, 1727), (333, 0, 1891, 1735), (336, 0, 1894, 1747), (340, 0, 1897, 1759)] : List (Nat × Nat × Nat × Nat)).all (zmpe 9) = true := by decide +kernel
theorem zmq_9_6 : ([(346, 0, 1900, 1767), (343, 0, 1899, 1771), (359, 0, 1905, 1779), (352, 0, 1904, 1783), (355, 0, 1902, 1787), (349, 0, 1903, 1791), (370, 0, 1907, 1800), (390, 0, 1909, 1805), (365, 0, 1908, 1816)] : List (Nat × Nat × Nat × Nat)).all (zmpe 9) = true := by decide +kernel
theorem zmq_9 : ∀ e ∈ zmp 9, zmpe 9 e = true := fun e h => List.all_eq_true.mp (show (([(7, 4, 0, 1300), (42, 1, 1806, 1357), (282, 0, 1861, 1380), (178, 0, 1845, 1384), (172, 0, 1844, 1388), (213, 0, 1846, 1392), (279, 0, 1860, 1396), (195, 0, 1847, 1401), (181, 6, 0, 1405), (186, 7, 0, 1406), (245, 0, 1853, 1407), (77, 0, 1809, 1411)] : List (Nat × Nat × Nat × Nat)) ++ (([(50, 1, 1810, 1415), (222, 0, 1852, 1418), (216, 0, 1851, 1422), (54, 0, 1811, 1434), (219, 0, 1850, 1438), (190, 0, 1849, 1442), (225, 0, 1848, 1446), (251, 0, 1854, 1451), (256, 0, 1855, 1456), (261, 0, 1856, 1462), (270, 0, 1859, 1469), (273, 1, 1857, 1480)] : List (Nat × Nat × Nat × Nat)) ++ (([(276, 1, 1858, 1483), (285, 0, 1801, 1486), (292, 0, 1863, 1494), (289, 1, 1802, 1498), (153, 0, 1812, 1501), (296, 0, 1835, 1506), (146, 0, 1813, 1510), (150, 0, 1834, 1514), (133, 0, 1829, 1518), (111, 0, 1823, 1522), (91, 0, 1814, 1526), (95, 0, 1819, 1530)] : List (Nat × Nat × Nat × Nat)) ++ (([(99, 0, 1821, 1534), (85, 0, 1820, 1538), (81, 1, 1803, 1542), (88, 0, 1818, 1545), (70, 0, 1817, 1549), (57, 1, 2401, 1553), (62, 0, 1816, 1554), (66, 0, 1815, 1558), (114, 0, 1822, 1562), (117, 0, 1825, 1566), (120, 0, 1824, 1570), (102, 1, 1804, 1574)] : List (Nat × Nat × Nat × Nat)) ++ (([(105, 0, 1826, 1577), (124, 0, 1827, 1581), (127, 0, 1828, 1585), (108, 1, 2402, 1589), (136, 0, 1831, 1590), (130, 0, 1830, 1594), (139, 0, 1832, 1598), (142, 0, 1833, 1602), (308, 0, 1865, 1610), (299, 0, 1837, 1614), (156, 0, 1836, 1618), (302, 0, 1840, 1622)] : List (Nat × Nat × Nat × Nat)) ++ (([(160, 0, 1839, 1626), (305, 0, 1838, 1631), (312, 0, 1871, 1655), (315, 0, 1876, 1675), (318, 0, 1879, 1687), (321, 0, 1885, 1711), (324, 0, 1886, 1715), (327, 0, 1887, 1719), (330, 0, 1889, 1727), (333, 0, 1891, 1735), (336, 0, 1894, 1747), (340, 0, 1897, 1759)] : List (Nat × Nat × Nat × Nat)) ++ (([(346, 0, 1900, 1767), (343, 0, 1899, 1771), (359, 0, 1905, 1779), (352, 0, 1904, 1783), (355, 0, 1902, 1787), (349, 0, 1903, 1791), (370, 0, 1907, 1800), (390, 0, 1909, 1805), (365, 0, 1908, 1816)] : List (Nat × Nat × Nat × Nat))))))))).all (zmpe 9) = true from (zall_app zmq_9_0 (zall_app zmq_9_1 (zall_app zmq_9_2 (zall_app zmq_9_3 (zall_app zmq_9_4 (zall_app zmq_9_5 zmq_9_6))))))) e h
theorem zmq_10_0 : ([(95, 2, 1600, 134), (99, 0, 1601, 471), (104, 0, 1603, 479), (118, 0, 1605, 483), (167, 0, 1621, 487), (177, 0, 1624, 491), (193, 0, 1630, 672), (206, 0, 1634, 725), (210, 0, 1635, 733), (214, 0, 1636, 737), (219, 0, 1637, 745), (109, 1, 2000, 765)] : List (Nat × Nat × Nat × Nat)).all (zmpe 10) = true := by decide +kernel
theorem zmq_10_1 : ([(7, 0, 1604, 770), (122, 1, 2001, 984), (17, 0, 1606, 989), (126, 1, 2002, 1035), (25, 0, 1607, 1038), (129, 1, 2003, 1042), (28, 0, 1608, 1045), (132, 1, 2004, 1053), (31, 0, 1609, 1056), (135, 1, 2005, 1061), (34, 0, 1610, 1064), (139, 1, 2006, 1072)] : List (Nat × Nat × Nat × Nat)).all (zmpe 10) = true := by decide +kernel
theorem zmq_10_2 : ([(38, 0, 1611, 1075), (142, 1, 2007, 1080), (41, 0, 1612, 1083), (145, 1, 2008, 1094), (44, 0, 1613, 1097), (148, 1, 2009, 1102), (47, 0, 1614, 1105), (152, 1, 2010, 1111), (51, 0, 1615, 1115), (155, 1, 2011, 1135), (56, 0, 1616, 1138), (158, 1, 2012, 1160)] : List (Nat × Nat × Nat × Nat)).all (zmpe 10) = true := by decide +kernel
theorem zmq_10_3 : ([(59, 0, 1617, 1163), (161, 1, 2013, 1167), (62, 0, 1619, 1170), (164, 1, 2014, 1176), (65, 0, 1620, 1179), (171, 1, 2015, 1186), (68, 0, 1622, 1189), (174, 1, 2016, 1193), (71, 0, 1623, 1196), (181, 1, 2017, 1200), (74, 0, 1626, 1203), (184, 1, 2018, 1211)] : List (Nat × Nat × Nat × Nat)).all (zmpe 10) = true := by decide +kernel
theorem zmq_10_4 : ([(77, 0, 1627, 1214), (187, 1, 2019, 1219), (80, 0, 1628, 1222), (190, 1, 2020, 1232), (83, 0, 1629, 1235), (197, 1, 2021, 1240), (86, 0, 1631, 1243), (200, 1, 2022, 1247), (89, 0, 1632, 1250), (203, 1, 2023, 1262), (92, 0, 1633, 1265), (115, 0, 1800, 1291)] : List (Nat × Nat × Nat × Nat)).all (zmpe 10) = true := by decide +kernel
theorem zmq_10_5 : ([(98, 2, 1805, 1297), (213, 0, 1807, 1353), (218, 0, 1808, 1360), (103, 0, 1841, 1364), (108, 0, 1842, 1368), (121, 0, 1843, 1372), (114, 0, 1862, 1376), (154, 0, 1864, 1490), (157, 0, 1866, 1606), (160, 0, 1867, 1635), (163, 0, 1868, 1639), (166, 0, 1869, 1643)] : List (Nat × Nat × Nat × Nat)).all (zmpe 10) = true := by decide +kernel
theorem zmq_10_6 : ([(170, 0, 1870, 1647), (125, 0, 1872, 1651), (128, 0, 1873, 1659), (131, 0, 1874, 1663), (134, 0, 1875, 1667), (138, 0, 1877, 1671), (141, 0, 1878, 1679), (144, 0, 1880, 1683), (147, 0, 1881, 1691), (151, 0, 1882, 1695), (199, 0, 1883, 1699), (202, 0, 1884, 1703)] : List (Nat × Nat × Nat × Nat)).all (zmpe 10) = true := by decide +kernel
theorem zmq_10_7 : ([(222, 0, 1888, 1707), (173, 0, 1890, 1723), (176, 0, 1892, 1731), (180, 0, 1893, 1739), (183, 0, 1895, 1743), (186, 0, 1896, 1751), (189, 0, 1898, 1755), (192, 0, 1901, 1763), (196, 0, 1906, 1775), (205, 0, 1910, 1795), (209, 0, 1911, 1820)] : List (Nat × Nat × Nat × Nat)).all (zmpe 10) = true := by decide +kernel
theorem zmq_10 : ∀ e ∈ zmp 10, zmpe 10 e = true := fun e h => List.all_eq_true.mp (show (([(95, 2, 1600, 134), (99, 0, 1601, 471), (104, 0, 1603, 479), (118, 0, 1605, 483), (167, 0, 1621, 487), (177, 0, 1624, 491), (193, 0, 1630, 672), (206, 0, 1634, 725), (210, 0, 1635, 733), (214, 0, 1636, 737), (219, 0, 1637, 745), (109, 1, 2000, 765)] : List (Nat × Nat × Nat × Nat)) ++ (([(7, 0, 1604, 770), (122, 1, 2001, 984), (17, 0, 1606, 989), (126, 1, 2002, 1035), (25, 0, 1607, 1038), (129, 1, 2003, 1042), (28, 0, 1608, 1045), (132, 1, 2004, 1053), (31, 0, 1609, 1056), (135, 1, 2005, 1061), (34, 0, 1610, 1064), (139, 1, 2006, 1072)] : List (Nat × Nat × Nat × Nat)) ++ (([(38, 0, 1611, 1075), (142, 1, 2007, 1080), (41, 0, 1612, 1083), (145, 1, 2008, 1094), (44, 0, 1613, 1097), (148, 1, 2009, 1102), (47, 0, 1614, 1105), (152, 1, 2010, 1111), (51, 0, 1615, 1115), (155, 1, 2011, 1135), (56, 0, 1616, 1138), (158, 1, 2012, 1160)] : List (Nat × Nat × Nat × Nat)) ++ (([(59, 0, 1617, 1163), (161, 1, 2013, 1167), (62, 0, 1619, 1170), (164, 1, 2014, 1176), (65, 0, 1620, 1179), (171, 1, 2015, 1186), (68, 0, 1622, 1189), (174, 1, 2016, 1193), (71, 0, 1623, 1196), (181, 1, 2017, 1200), (74, 0, 1626, 1203), (184, 1, 2018, 1211)] : List (Nat × Nat × Nat × Nat)) ++ (([(77, 0, 1627, 1214), (187, 1, 2019, 1219), (80, 0, 1628, 1222), (190, 1, 2020, 1232), (83, 0, 1629, 1235), (197, 1, 2021, 1240), (86, 0, 1631, 1243), (200, 1, 2022, 1247), (89, 0, 1632, 1250), (203, 1, 2023, 1262), (92, 0, 1633, 1265), (115, 0, 1800, 1291)] : List (Nat × Nat × Nat × Nat)) ++ (([(98, 2, 1805, 1297), (213, 0, 1807, 1353), (218, 0, 1808, 1360), (103, 0, 1841, 1364), (108, 0, 1842, 1368), (121, 0, 1843, 1372), (114, 0, 1862, 1376), (154, 0, 1864, 1490), (157, 0, 1866, 1606), (160, 0, 1867, 1635), (163, 0, 1868, 1639), (166, 0, 1869, 1643)] : List (Nat × Nat × Nat × Nat)) ++ (([(170, 0, 1870, 1647), (125, 0, 1872, 1651), (128, 0, 1873, 1659), (131, 0, 1874, 1663), (134, 0, 1875, 1667), (138, 0, 1877, 1671), (141, 0, 1878, 1679), (144, 0, 1880, 1683), (147, 0, 1881, 1691), (151, 0, 1882, 1695), (199, 0, 1883, 1699), (202, 0, 1884, 1703)] : List (Nat × Nat × Nat × Nat)) ++ (([(222, 0, 1888, 1707), (173, 0, 1890, 1723), (176, 0, 1892, 1731), (180, 0, 1893, 1739), (183, 0, 1895, 1743), (186, 0, 1896, 1751), (189, 0, 1898, 1755), (192, 0, 1901, 1763), (196, 0, 1906, 1775), (205, 0, 1910, 1795), (209, 0, 1911, 1820)] : List (Nat × Nat × Nat × Nat)))))))))).all (zmpe 10) = true from (zall_app zmq_10_0 (zall_app zmq_10_1 (zall_app zmq_10_2 (zall_app zmq_10_3 (zall_app zmq_10_4 (zall_app zmq_10_5 (zall_app zmq_10_6 zmq_10_7)))))))) e h
theorem zmq_11 : ∀ e ∈ zmp 11, zmpe 11 e = true := fun _ h => nomatch h
theorem zmq_12 : ∀ e ∈ zmp 12, zmpe 12 e = true := fun _ h => nomatch h
theorem zmp_ok {c : Nat} {e : Nat × Nat × Nat × Nat} (h : e ∈ zmp c) : zmpe c e = true := by
  match c, h with
  | 0, h => exact zmq_0 e h
  | 1, h => exact zmq_1 e h
  | 2, h => exact zmq_2 e h
  | 3, h => exact zmq_3 e h
  | 4, h => exact zmq_4 e h
  | 5, h => exact zmq_5 e h
  | 6, h => exact zmq_6 e h
  | 7, h => exact zmq_7 e h
  | 8, h => exact zmq_8 e h
  | 9, h => exact zmq_9 e h
  | 10, h => exact zmq_10 e h
  | 11, h => exact zmq_11 e h
  | 12, h => exact zmq_12 e h
  | k + 13, h => rw [zmp_ge (by omega)] at h; cases h
theorem zent_lt {j : Nat} {q : zMt} (h : zent j = some q) : j / 200 < 13 := by
  apply Nat.lt_of_not_le
  intro hc
  unfold zent at h
  rw [zmc_ge hc] at h
  cases h
theorem zplj_ex {j : Nat} {q : zMt} (h : zent j = some q) : ∃ pl, zplj j = some pl := by
  have hlen : (zpl (j / 200)).length = (zmc (j / 200)).length := by
    have h1 := zent_lt h
    exact of_decide_eq_true (List.all_eq_true.mp (show (List.range 13).all (fun c => decide ((zpl c).length = (zmc c).length)) = true by decide +kernel) (j / 200) (List.mem_range.mpr h1))
  unfold zent at h
  unfold zplj
  have h2 := (List.getElem?_eq_some_iff.mp h).1
  exact ⟨_, List.getElem?_eq_getElem (by rw [hlen]; exact h2)⟩
theorem zmt_ok {j : Nat} {q : zMt} (h : zent j = some q) (hj : j ≠ 2024) (hj2 : j < 2400) : ∃ pl, zplj j = some pl ∧ zmok (j / 200) (j % 200) q pl = true := by
  obtain ⟨pl, hp⟩ := zplj_ex h
  refine ⟨pl, hp, ?_⟩
  have hc : j / 200 < 12 := by omega
  have hi : j / 200 = 10 → j % 200 ≠ 24 := by omega
  unfold zent at h
  unfold zplj at hp
  generalize j / 200 = c at h hp hc hi ⊢
  generalize j % 200 = i at h hp hi ⊢
  match c, hc, h, hp, hi with
  | 0, _, h, hp, _ => exact zmt_0 h hp
  | 1, _, h, hp, _ => exact zmt_1 h hp
  | 2, _, h, hp, _ => exact zmt_2 h hp
  | 3, _, h, hp, _ => exact zmt_3 h hp
  | 4, _, h, hp, _ => exact zmt_4 h hp
  | 5, _, h, hp, _ => exact zmt_5 h hp
  | 6, _, h, hp, _ => exact zmt_6 h hp
  | 7, _, h, hp, _ => exact zmt_7 h hp
  | 8, _, h, hp, _ => exact zmt_8 h hp
  | 9, _, h, hp, _ => exact zmt_9 h hp
  | 10, _, h, hp, hi => exact zmt_10 h hp (hi rfl)
  | 11, _, h, hp, _ => exact zmt_11 h hp
  | k + 12, hc, _, _, _ => exact absurd hc (by omega)
theorem zj_eq (j : Nat) : 200 * (j / 200) + j % 200 = j := Nat.div_add_mod j 200
theorem zmt_all {j : Nat} {q : zMt} (h : zent j = some q) (hj : j ≠ 2024) (hj2 : j < 2400) : q.1.cls = zcn (j / 200) ∧ plainName q.1.cls = true ∧ (q.1.cls ≠ "java/lang/invoke/MethodHandle" ∧ q.1.cls ≠ "java/lang/invoke/VarHandle") ∧ zcw q ∈ zWs ∧ Cond.initialized q.1.cls ∈ zWs ∧ (parseMethodDescriptor q.1.desc).map (fun d => d.parameters.length) = some (zna j) ∧ q.2.2.1 ≤ 20 ∧ (zini j = true → q.1.name = "<init>") := by
  obtain ⟨pl, -, hk⟩ := zmt_ok h hj hj2
  unfold zmok at hk
  rw [zj_eq] at hk
  simp only [Bool.and_eq_true, decide_eq_true_eq] at hk
  obtain ⟨⟨⟨⟨⟨⟨⟨⟨⟨⟨⟨a1, a2⟩, a3⟩, a4⟩, a5⟩, a6⟩, a7⟩, a8⟩, a9⟩, a10⟩, a11⟩, a12⟩ := hk
  refine ⟨a1, a2, ⟨a3, a4⟩, ?_, List.mem_filter.mpr ⟨List.mem_of_getElem? a6, rfl⟩, a7, Nat.le_of_ble_eq_true a11, fun hi => ?_⟩
  · unfold zcw
    by_cases hh : q.2.2.2.2.1 = []
    · rw [if_pos hh] at a5 ⊢
      exact List.mem_filter.mpr ⟨List.mem_of_getElem? (of_decide_eq_true a5), rfl⟩
    · rw [if_neg hh] at a5 ⊢
      exact List.mem_filter.mpr ⟨List.mem_of_getElem? (of_decide_eq_true a5), rfl⟩
  · rw [hi, if_pos rfl] at a10
    exact of_decide_eq_true a10
theorem zin_of {i : Nat} {w : Cond} (h : lw_tbl[i]? = some w) (g : goodWord w = true) : w ∈ zWs := List.mem_filter.mpr ⟨List.mem_of_getElem? h, g⟩
theorem zk0_ok {c idx j pl : Nat} (h : (zmp c).lookup idx = some (0, j, pl)) : ∃ q, zent j = some q ∧ Cond.methodLink (zcn c) idx q.1 ∈ zWs ∧ Cond.instanceMethod q.1 ∈ zWs ∧ Cond.selects q.1.cls q.1 q.1 ∈ zWs ∧ q.2.2.2.2.1 = [] ∧ j < 2000 := by
  have h1 := zmp_ok (zlk_of (β := Unit) h)
  unfold zmpe at h1
  cases hq : zent j with
  | none => simp only [hq] at h1; cases h1
  | some q =>
    obtain ⟨p2, hp⟩ := zplj_ex hq
    simp only [hq, hp, Bool.and_eq_true, decide_eq_true_eq] at h1
    obtain ⟨⟨⟨⟨a1, a2⟩, a3⟩, a4⟩, a5⟩ := h1
    have := zblt a5
    exact ⟨q, rfl, zin_of a1 rfl, zin_of a2 rfl, zin_of a3 rfl, List.isEmpty_iff.mp a4, by omega⟩
theorem zk1_ok {c idx j pl : Nat} (h : (zmp c).lookup idx = some (1, j, pl)) : ∃ q, zent j = some q ∧ Cond.methodLink (zcn c) idx q.1 ∈ zWs ∧ Cond.static q.1 ∈ zWs ∧ j ≠ 2024 := by
  have h1 := zmp_ok (zlk_of (β := Unit) h)
  unfold zmpe at h1
  cases hq : zent j with
  | none => simp only [hq] at h1; cases h1
  | some q =>
    obtain ⟨p2, hp⟩ := zplj_ex hq
    simp only [hq, hp, Bool.and_eq_true, decide_eq_true_eq, bne_iff_ne] at h1
    obtain ⟨⟨a1, a2⟩, a3⟩ := h1
    exact ⟨q, rfl, zin_of a1 rfl, zin_of a2 rfl, a3⟩
theorem zk2_ok {c idx j pl : Nat} (h : (zmp c).lookup idx = some (2, j, pl)) : ∃ q, zent j = some q ∧ Cond.methodLink (zcn c) idx q.1 ∈ zWs ∧ Cond.instanceMethod q.1 ∈ zWs ∧ zini j = true ∧ q.2.2.2.2.1 = [] ∧ q.2.2.2.1 = none ∧ j < 2000 := by
  have h1 := zmp_ok (zlk_of (β := Unit) h)
  unfold zmpe at h1
  cases hq : zent j with
  | none => simp only [hq] at h1; cases h1
  | some q =>
    obtain ⟨p2, hp⟩ := zplj_ex hq
    simp only [hq, hp, Bool.and_eq_true, decide_eq_true_eq] at h1
    obtain ⟨⟨⟨⟨⟨a1, a2⟩, a3⟩, a4⟩, a6⟩, a5⟩ := h1
    have := zblt a5
    exact ⟨q, rfl, zin_of a1 rfl, zin_of a2 rfl, a3, List.isEmpty_iff.mp a4, a6, by omega⟩
theorem zk3_ok {c idx j pl : Nat} (h : (zmp c).lookup idx = some (3, j, pl)) : ∃ q, zent j = some q ∧ Cond.methodLinkNest (zcn c) idx q.1 "ElidedLocks" ∈ zNs ∧ Cond.instanceMethod q.1 ∈ zWs ∧ zini j = true ∧ q.2.2.2.2.1 = [] ∧ q.2.2.2.1 = none ∧ j < 2000 := by
  have h1 := zmp_ok (zlk_of (β := Unit) h)
  unfold zmpe at h1
  cases hq : zent j with
  | none => simp only [hq] at h1; cases h1
  | some q =>
    obtain ⟨p2, hp⟩ := zplj_ex hq
    simp only [hq, hp, Bool.and_eq_true, decide_eq_true_eq] at h1
    obtain ⟨⟨⟨⟨⟨a1, a2⟩, a3⟩, a4⟩, a6⟩, a5⟩ := h1
    have := zblt a5
    exact ⟨q, rfl, a1, zin_of a2 rfl, a3, List.isEmpty_iff.mp a4, a6, by omega⟩
end
section
section ZV
variable {p : Program} {l : Launch} {e : Env} {R : Room} {s : State} {m : MethodId} {args : Array Value} {below : List Frame} {meth : Method} {c : Code} {H : Heap} {locs : List Loc} {cells slots : Nat} {G : zG} {cc : ByteArray} {ls : Array Slot} {pc : Nat} {σ : Nat → Nat × (Nat → Int32)} {cn : Nat} {st : List Value} {M : zMem}
def zDs : List Cond := [.declares ⟨"java/lang/RuntimeException", "<init>", "(Ljava/lang/String;)V"⟩, .declares ⟨"java/lang/Exception", "<init>", "(Ljava/lang/String;)V"⟩, .declares ⟨"java/lang/Throwable", "<init>", "(Ljava/lang/String;)V"⟩]
def zDk (w : Cond) : Bool := match w with
  | .declares _ => true
  | _ => false
theorem zDs_warm {s U : State} (hW : s.WarmedH U.vm) (h : ∀ w ∈ zDs, va_Nw w s) : ∀ w ∈ zDs, va_Nw w U := by
  intro w hw
  have h1 := h w hw
  have h2 : zDk w = true := List.all_eq_true.mp (show zDs.all zDk = true by decide +kernel) w hw
  cases w
  case declares a => exact va_Nw.warmD hW h1
  all_goals cases h2
def zNC (U : State) : Prop := (∀ a b, a < 5 → b < 5 → a ≠ b → va_Nc (zex a) (zex b) U) ∧ ∀ w ∈ zDs, va_Nw w U
def zPc (G : zG) (σ : Nat → Nat × (Nat → Int32)) (as : List Value) (M : zMem) : Array Value → State → Prop := fun a U => a = (as.map (zcv G)).toArray ∧ zRel G M U.heap ∧ va_K G.1 vwCl (ztys G) U ∧ zEnv G σ U ∧ zNC U ∧ G.2.2.1 ≤ U.heap.size ∧ (M.2.2.2.1 = true → U.heap.size ≤ G.2.2.1 + M.1.length)
def zrm (d kc ks : Nat) : Room := { frames := d + 8, cells := kc, slots := ks, locals := 40 * d + 200 }
def zQc (G : zG) (o : zO) (M' : zMem) : Array Value → State → Outcome → State → Prop := fun _ st oc t => match o with
  | .inl v => oc = .returned (v.map (zcv G)) ∧ zRel G M' t.heap ∧ va_F (zA G) st t
  | .inr _ => False
def zXc (G : zG) (o : zO) (M' : zMem) : String → State → State → Prop := fun E st t => match o with
  | .inl _ => False
  | .inr e => E = zex e ∧ zRel G M' t.heap ∧ va_F (zA G) st t
theorem zPc_blind {as : List Value} : FrameBlind (zPc G σ as M) := by
  intro a U g mk h
  obtain ⟨h1, h2, h3, h4, h5, h6, h7⟩ := h
  exact ⟨h1, h2, va_K.moved (u := U) (U := U.calling g mk a) (Vm.Alike.refl U.vm) h3, zEnv.go (s := U) (U := U.calling g mk a) h4 (State.WarmedH.refl U) h6 (fun q _ _ => rfl), ⟨fun x y hx hy hxy => va_Nc.moved (u := U) (U := U.calling g mk a) (Vm.Alike.refl U.vm) (h5.1 x y hx hy hxy), zDs_warm (s := U) (U := U.calling g mk a) (State.WarmedH.refl U) h5.2⟩, h6, h7⟩
theorem zPc_at {as : List Value} (B : zBd p s m args c cc cn G σ) (hNC : zNC s) (hR : zRel G M H) (hS : va_S (zA G) s.heap H locs) (hX : M.2.2.2.1 = true → H.size ≤ G.2.2.1 + M.1.length) : ∀ U : State, U.heap = H → s.WarmedH U.vm → zPc G σ as M (as.map (zcv G)).toArray U := by
  intro U hU hW
  obtain ⟨hx, hb, hown, hts, hK, hbs, hE⟩ := B
  refine ⟨rfl, by rw [hU]; exact hR, va_K.moved hW.alike hK, zEnv.go hE hW hbs (fun q h1 h2 => by rw [hU]; exact hS.2.1 q h1 h2), ⟨fun x y hx hy hxy => va_Nc.moved hW.alike (hNC.1 x y hx hy hxy), zDs_warm hW hNC.2⟩, ?_, ?_⟩
  · rw [hU]; exact Nat.le_trans hbs hS.1
  · rw [hU]; exact hX
theorem zws_warm (hts : ∀ w ∈ zWs, w.before args s = true) {w : Cond} (hw : w ∈ zWs) (a' : Array Value) (U : State) (hW : s.WarmedH U.vm) : w.before a' U = true := word_at hW (good_of_word (List.mem_filter.mp hw).2) (hts w hw)
theorem zsp_ok {j n : Nat} {j' : Nat} {as rest : List Value} (h : zsp j n st = some (j', as, rest)) : j' = j ∧ st = as.reverse ++ rest ∧ as.length = n ∧ zsum rest ≤ 8 ∧ ∀ v ∈ as, v.category = 1 := by
  unfold zsp at h
  rw [cond_eq_ite] at h
  split at h
  · rename_i hc
    cases h
    simp only [Bool.and_eq_true] at hc
    obtain ⟨⟨c1, c2⟩, c3⟩ := hc
    refine ⟨rfl, by rw [List.reverse_reverse, List.take_append_drop], ?_, zble c2, fun v hv => ?_⟩
    · have := zble c1
      simp; omega
    · have := List.all_eq_true.mp c3 v (List.mem_reverse.mp hv)
      exact beq_iff_eq.mp this
  · cases h
theorem zsum_map (r : List Value) : ((r.map (zcv G)).map fun v => v.category).sum = zsum r := by
  unfold zsum
  rw [List.map_map]
  congr 2
  funext v
  exact zcv_cat G v
theorem zrml {d maxL r : Nat} (h : maxL ≤ 20) (h2 : 40 * d + 240 ≤ r) : 8 + (maxL + 11) + (40 * d + 200) ≤ r := by omega
theorem zpar {y : MethodName} {n : Nat} (h : (parseMethodDescriptor y.desc).map (fun d => d.parameters.length) = some n) : ∀ sig, parseMethodDescriptor y.desc = some sig → n = sig.parameters.length := by
  intro sig hs
  rw [hs] at h
  exact (Option.some.inj h).symm
theorem zcallB {d kc ks j idx : Nat} {q : zMt} (hts : ∀ w ∈ zWs, w.before args s = true) (hq : zent j = some q) (hj : j ≠ 2024) (hj2 : j < 2400) (hh : q.2.2.2.2.1 = []) (hlk : Cond.methodLink (zcn cn) idx q.1 ∈ zWs) (hRf : d + 9 ≤ R.frames) (hRl : 40 * d + 240 ≤ R.locals) :
    CallB R s args (zcn cn) idx q.1 q.2.1 q.2.2.1 q.2.2.2.1 (zcw q :: zWs) (zrm d kc ks) kc ks (zna j) := by
  obtain ⟨a1, a2, a3, a4, a5, a6, a7, -⟩ := zmt_all hq hj hj2
  have hc : zcw q = Cond.code q.1 q.2.1 q.2.2.1 q.2.2.2.1 := by unfold zcw; rw [if_pos hh]
  refine ⟨rfl, rfl, hRf, zrml a7 hRl, fun w hw a' U hW => ?_, by rw [hc]; exact List.mem_cons_self, by rw [← hc]; exact hts _ a4, hts _ a5, a3, zpar a6, hts _ hlk⟩
  rcases List.mem_cons.mp hw with rfl | hw
  · exact zws_warm hts a4 a' U hW
  · exact zws_warm hts hw a' U hW
theorem zcallSX {d kc ks j idx : Nat} {q : zMt} (hts : ∀ w ∈ zWs, w.before args s = true) (hq : zent j = some q) (hj : j ≠ 2024) (hj2 : j < 2400) (hh : ¬ q.2.2.2.2.1 = []) (hlk : Cond.methodLink (zcn cn) idx q.1 ∈ zWs) (hst : Cond.static q.1 ∈ zWs) (hRf : d + 9 ≤ R.frames) (hRl : 40 * d + 240 ≤ R.locals) :
    vx_CSW R s args (zcn cn) idx q.1 q.2.1 q.2.2.1 q.2.2.2.1 q.2.2.2.2.1 (zcw q :: zWs) (zrm d kc ks) kc ks (zna j) := by
  obtain ⟨a1, a2, a3, a4, a5, a6, a7, -⟩ := zmt_all hq hj hj2
  have hc : zcw q = Cond.codeWith q.1 q.2.1 q.2.2.1 q.2.2.2.1 q.2.2.2.2.1 := by unfold zcw; rw [if_neg hh]
  refine ⟨⟨rfl, rfl, hRf, zrml a7 hRl, fun w hw a' U hW => ?_, by rw [hc]; exact List.mem_cons_self⟩, by rw [← hc]; exact hts _ a4, hts _ a5, a3, zpar a6, hts _ hlk, hts _ hst⟩
  rcases List.mem_cons.mp hw with rfl | hw
  · exact zws_warm hts a4 a' U hW
  · exact zws_warm hts hw a' U hW
theorem zcallN {d kc ks j idx : Nat} {q : zMt} (hts : ∀ w ∈ zWs, w.before args s = true) (hq : zent j = some q) (hj : j ≠ 2024) (hj2 : j < 2400) (hh : q.2.2.2.2.1 = []) (hlk : va_Nw (Cond.methodLinkNest (zcn cn) idx q.1 "ElidedLocks") s) (hRf : d + 9 ≤ R.frames) (hRl : 40 * d + 240 ≤ R.locals) :
    va_CN R s args (zcn cn) idx q.1 "ElidedLocks" q.2.1 q.2.2.1 q.2.2.2.1 (zcw q :: zWs) (zrm d kc ks) kc ks (zna j) := by
  obtain ⟨a1, a2, a3, a4, a5, a6, a7, -⟩ := zmt_all hq hj hj2
  have hc : zcw q = Cond.code q.1 q.2.1 q.2.2.1 q.2.2.2.1 := by unfold zcw; rw [if_pos hh]
  refine ⟨⟨rfl, rfl, hRf, zrml a7 hRl, fun w hw a' U hW => ?_, by rw [hc]; exact List.mem_cons_self⟩, by rw [← hc]; exact hts _ a4, hts _ a5, a3, zpar a6, va_Nw.use rfl hlk⟩
  rcases List.mem_cons.mp hw with rfl | hw
  · exact zws_warm hts a4 a' U hW
  · exact zws_warm hts hw a' U hW
theorem zcall_run (B : zBd p s m args c cc cn G σ) (hml : ls.size = c.maxLocals) {i : Instr} {len : Nat} (hd : decode cc pc = .ok (i, len)) (hlen : zsw i = true ∨ zlen i = len) {j' : Nat} {as rest : List Value} (hcall : zcall cn i st M = some (j', as, rest)) (hR : zRel G M H) (hpre : ∀ U : State, U.heap = H → s.WarmedH U.vm → zPc G σ as M (as.map (zcv G)).toArray U) {d kc ks : Nat} (hRf : d + 9 ≤ R.frames) (hRl : 40 * d + 240 ≤ R.locals) (hf : cells + kc ≤ R.cells ∧ slots + ks ≤ R.slots)
    {Qc : Array Value → State → Outcome → State → Prop} {XC : String → State → State → Prop} (hM : ∀ q, zent j' = some q → j' ≠ 2024 → j' < 2400 → (∀ v ∈ as, v.category = 1) → vx_Met l q.1 (zcw q :: zWs) (zrm d kc ks) (zPc G σ as M) Qc XC kc ks (zA G)) :
    vx_Run p l e R s m args below meth c H locs cells slots kc ks (F0 m pc ls (st.map (zcv G))) (rest.map (zcv G)) (Qc (as.map (zcv G)).toArray) XC (zA G) := by
  obtain ⟨hx, hb, hown, hts, hK, hbs, hE⟩ := B
  unfold zcall at hcall
  cases i
  case invokevirtual idx =>
    obtain rfl := zlk hlen rfl
    dsimp only at hcall
    split at hcall
    · rename_i j pl hl
      split at hcall
      · rename_i j2 b as2 r2 hsp
        obtain ⟨rfl, hst, hlen2, hsum, hcat⟩ := zsp_ok hsp
        split at hcall
        · rename_i kd n rs hMb
          rw [cond_eq_ite] at hcall
          split at hcall
          · rename_i hkd
            cases hcall
            obtain ⟨q, hq, w1, w2, w3, hh, hj⟩ := zk0_ok hl
            have hj1 : j' ≠ 2024 := by omega
            have hj2 : j' < 2400 := by omega
            obtain ⟨a1, -⟩ := zmt_all hq hj1 hj2
            have hkd := beq_iff_eq.mp hkd
            subst hkd
            have hci : j' / 200 < 10 := by omega
            obtain ⟨qc, hqc⟩ : ∃ qc, vwCl[j' / 200]? = some qc := ⟨_, List.getElem?_eq_getElem (by exact hci)⟩
            have hcn := (zcl_all hqc).1
            have he : (zw G M)[b]? = some (zad G b, .inr (j' / 200, (List.range (zN (j' / 200))).map (zfv G M.2.1 b (j' / 200) rs))) := by rw [zw_get hMb, zcel_obj hci]
            have hrv := va_recv hK hR.1 hqc he
            rw [hcn, ← a1] at hrv
            have hcw := zcallB (R := R) (kc := kc) (ks := ks) hts hq hj1 hj2 hh w1 hRf hRl
            exact vx_runV (C := q.1.cls) (b := zad G b) (As := as2.map (zcv G)) ⟨hx, hb, rfl, hown, hts⟩ (hM q hq hj1 hj2 hcat) ⟨hcw, hts _ w2, hts _ w3⟩ ⟨zPc_blind, hrv, hpre⟩ rfl (by simp at hlen2 ⊢; omega) hml (by rw [hst]; simp [zcv]) (by rw [zsum_map]; show 2 * 0 + _ ≤ 8; omega) hd hf
          · cases hcall
        · cases hcall
      · cases hcall
    · cases hcall
  case invokestatic idx =>
    obtain rfl := zlk hlen rfl
    dsimp only at hcall
    split at hcall
    · rename_i j pl hl
      rw [cond_eq_ite] at hcall
      split at hcall
      · rename_i hj2
        have hj2 := zblt hj2
        obtain ⟨rfl, hst, hlen2, hsum, hcat⟩ := zsp_ok hcall
        obtain ⟨q, hq, w1, w2, hj1⟩ := zk1_ok hl
        by_cases hh : q.2.2.2.2.1 = []
        · have hcw := zcallB (R := R) (kc := kc) (ks := ks) hts hq hj1 hj2 hh w1 hRf hRl
          exact vx_runS (As := as.map (zcv G)) ⟨hx, hb, rfl, hown, hts⟩ (hM q hq hj1 hj2 hcat) ⟨hcw, hts _ w2⟩ ⟨zPc_blind, hpre⟩ rfl (by simp [hlen2]) hml (by rw [hst]; simp) (by rw [zsum_map]; show 2 * 0 + _ ≤ 8; omega) hd hf
        · have hcw := zcallSX (R := R) (kc := kc) (ks := ks) hts hq hj1 hj2 hh w1 w2 hRf hRl
          exact vx_runSX (As := as.map (zcv G)) ⟨hx, hb, rfl, hown, hts⟩ (hM q hq hj1 hj2 hcat) hcw ⟨zPc_blind, hpre⟩ rfl (by simp [hlen2]) hml (by rw [hst]; simp) (by rw [zsum_map]; show 2 * 0 + _ ≤ 8; omega) hd hf
      · cases hcall
    · cases hcall
  case invokespecial idx =>
    obtain rfl := zlk hlen rfl
    dsimp only at hcall
    split at hcall
    · rename_i j pl hl
      split at hcall
      · rename_i j2 b as2 r2 hsp
        obtain ⟨rfl, hst, hlen2, hsum, hcat⟩ := zsp_ok hsp
        cases hcall
        obtain ⟨q, hq, w1, w2, hi, hh, hrn, hj⟩ := zk2_ok hl
        have hj1 : j' ≠ 2024 := by omega
        have hj2 : j' < 2400 := by omega
        have hnm := (zmt_all hq hj1 hj2).2.2.2.2.2.2.2 hi
        have hcw := zcallB (R := R) (kc := kc) (ks := ks) hts hq hj1 hj2 hh w1 hRf hRl
        rw [hrn] at hcw
        exact vx_runI (b := zad G b) (As := as2.map (zcv G)) ⟨hx, hb, rfl, hown, hts⟩ (hM q hq hj1 hj2 hcat) ⟨hcw, hnm, hts _ w2⟩ ⟨zPc_blind, hpre⟩ rfl (by simp at hlen2 ⊢; omega) hml (by rw [hst]; simp [zcv]) (by rw [zsum_map]; show 2 * 0 + _ ≤ 8; omega) hd hf
      · cases hcall
    · rename_i j pl hl
      split at hcall
      · rename_i j2 b as2 r2 hsp
        obtain ⟨rfl, hst, hlen2, hsum, hcat⟩ := zsp_ok hsp
        cases hcall
        obtain ⟨q, hq, w1, w2, hi, hh, hrn, hj⟩ := zk3_ok hl
        have hj1 : j' ≠ 2024 := by omega
        have hj2 : j' < 2400 := by omega
        have hnm := (zmt_all hq hj1 hj2).2.2.2.2.2.2.2 hi
        have hcw := zcallN (R := R) (kc := kc) (ks := ks) (cn := cn) (idx := idx) hts hq hj1 hj2 hh (hE.2.2.2.1 _ w1) hRf hRl
        rw [hrn] at hcw
        exact vx_runIN (b := zad G b) (As := as2.map (zcv G)) ⟨hx, hb, rfl, hown, hts⟩ (hM q hq hj1 hj2 hcat) ⟨hcw, hnm, hts _ w2⟩ ⟨zPc_blind, hpre⟩ rfl (by simp at hlen2 ⊢; omega) hml (by rw [hst]; simp [zcv]) (by rw [zsum_map]; show 2 * 0 + _ ≤ 8; omega) hd hf
      · cases hcall
    · cases hcall
  all_goals cases hcall
end ZV
end
section
/-! 'throw new E("text")' of a class whose constructor calls its superclass's by another pool place than 7: vx_ctorMadeS, vx_makeS of kit/laws/EXCEPTIONS turned to it -/
def zchA (X : String) (ix : Nat) (rx : ByteArray) : List String → List Cond
  | [] => Bundle.passSAtoms X Bundle.tN ix rx
  | Y :: r => Bundle.passSAtoms X Y ix rx ++ Bundle.chainSAtoms Y r
def ztlA (own : String) (ic : Nat) (X : String) : List Cond :=
  [.methodLink own ic (Bundle.initS X), .instantiable X 6, .castable X X, .selects X Bundle.tFill0 Bundle.tFill0, .selects X Bundle.tFill Bundle.tFill,
   .lays X Bundle.tN "cause" "Ljava/lang/Throwable;", .lays X Bundle.tN "stackTrace" Bundle.steD, .lays X Bundle.tN "suppressedExceptions" Bundle.listD, .lays X Bundle.tN "detailMessage" "Ljava/lang/String;",
   .isRef (.static Bundle.tN "UNASSIGNED_STACK" Bundle.steD), .isRef (.static Bundle.tN "SUPPRESSED_SENTINEL" Bundle.listD),
   .fieldLink Bundle.tN 198 Bundle.tN "backtrace" "Ljava/lang/Object;", .lays Bundle.tN Bundle.tN "backtrace" "Ljava/lang/Object;", .lays X Bundle.tN "backtrace" "Ljava/lang/Object;"]
def zoA (own : String) (ic : Nat) (X : String) (ix : Nat) (rx : ByteArray) (names : List String) : List Cond := Bundle.throwableAtoms ++ Bundle.throwableSAtoms ++ zchA X ix rx names ++ ztlA own ic X
theorem zchX {args : Array Value} {s : State} {pl : Platform} (hpl : pl.magicAccessors = ({} : Platform).magicAccessors) {top : MethodId} (htop : s.methodNamed? (Bundle.initS Bundle.tN) = some top)
    {ix : Nat} {rx : ByteArray} (x0 : decode rx 0 = .ok (.aload_n 0, 1)) (x1 : decode rx 1 = .ok (.aload_n 1, 1)) (x2 : decode rx 2 = .ok (.invokespecial ix, 3)) (x5 : decode rx 5 = .ok (.return_, 1))
    (Y : String) (r : List String) (X : String) (hX : Bundle.fit X = true) (hn : ∀ n ∈ Y :: r, Bundle.fit n = true) (h : ∀ c ∈ zchA X ix rx (Y :: r), c.before args s = true) :
      ∃ (P1 : PassC) (Ps : List PassC), Ps.length = (Y :: r).length ∧ P1.LinksS pl s ∧ (∀ P, P ∈ Ps → P.LinksS pl s) ∧ s.methodNamed? (Bundle.initS X) = some P1.m ∧
        P1.sup = firstOf top (Ps.map (·.toPassT)) ∧ PassesOn top (Ps.map (·.toPassT)) := by
  have hY := hn Y List.mem_cons_self
  obtain ⟨P, LP, hm, hs⟩ := PassC.ofS_atoms (args := args) (s := s) hpl (X := X) (Y := Y) (Bundle.fit_spec hX).1 (Bundle.fit_spec hY).2 x0 x1 x2 x5 (fun c hc => h c (List.mem_append_left _ hc))
  obtain ⟨P2, Ps, hlen, L2, hL, hm2, hsup, hpass⟩ := Bundle.chainS (args := args) hpl htop r Y hY (fun n hn2 => hn n (List.mem_cons_of_mem _ hn2)) (fun c hc => h c (List.mem_append_right _ hc))
  exact ⟨P, P2 :: Ps, by rw [List.length_cons, hlen, List.length_cons], LP, fun Q hQ => (List.mem_cons.mp hQ).elim (fun e => e ▸ L2) (hL Q), hm, Option.some.inj (hs.symm.trans hm2), hsup, hpass⟩
section ZXK
variable {p : Program} {l : Launch} {e : Env} {R : Room} {s : State} {m₀ : MethodId} {args : Array Value} {below : List Frame} {meth : Method} {c : Code} {W : State} {locs : List Loc} {cells slots : Nat}
set_option maxHeartbeats 4000000 in
theorem zctorM (X : Stand p l e R s m₀ args below meth c W locs cells slots) (hexec : p.tables.exec = Jvm.exec) (htr : e.platform.stackTraces = false) {own cls : String} {Yn : String} {rn : List String} {ic : Nat} {ix : Nat} {rx : ByteArray} (x0 : decode rx 0 = .ok (.aload_n 0, 1)) (x1 : decode rx 1 = .ok (.aload_n 1, 1)) (x2 : decode rx 2 = .ok (.invokespecial ix, 3)) (x5 : decode rx 5 = .ok (.return_, 1))
    (hown : s.vm.findClass own = some m₀.cls) (hcls : Bundle.fit cls = true) (hnames : ∀ n ∈ Yn :: rn, Bundle.fit n = true)
    (h : ∀ a ∈ zoA own ic cls ix rx (Yn :: rn), a.before args s = true)
    (hlocs : ∀ x ∈ locs, ∀ cell, s.heap[x.base]? = some cell → cell.vm.isStatics = false)
    {a : Addr} {cX : ClassId} {kX : Class} (hfoundX : s.vm.findClass cls = some cX) (hkX : s.vm.classes[cX]? = some kX) (hcell : W.heap[a]? = some (freshCell cX kX)) (hnew : s.heap.size ≤ a)
    {msg : Value} (hmsg : msg.isRef = true)
    {g : JFrame} (hg : g.method = m₀) (hsize : g.locals.size = c.maxLocals) {rest : List Value} (hstack : g.stack = msg :: .ref a :: .ref a :: rest)
    (hd6 : decode c.code g.pc = .ok (.invokespecial ic, 3))
    (hRframes : (Yn :: rn).length + 3 < R.frames) (hRlocals : 2 * g.monitorRoom + ((Value.ref a :: rest).map fun v => v.category).sum + (13 * ((Yn :: rn).length + 1) + 42) ≤ R.locals) :
    ∃ (V : State) (ce : Cell) (L : List Loc), Stand p l e R s m₀ args below meth c (V.setCell a ce) (locs ++ L) cells slots ∧ (∀ y ∈ L, y.base = a) ∧ a < V.heap.size ∧ ce.cls = cX ∧ ce.vm = .none ∧
      ∀ target, Steps p.tables e below ((V.setCell a ce).setTop { g with stack := .ref a :: rest, pc := g.pc + 3 }) target → Steps p.tables e below (W.setTop g) target := by
  have howns : e.platform.frameOwnsMonitors = true := by rw [X.admits.platform]
  have hfin : e.platform.finalization = false := by rw [X.admits.platform]
  have hpl : e.platform.magicAccessors = ({} : Platform).magicAccessors := by rw [X.admits.platform]
  have a' : ∀ x, x ∈ zoA own ic cls ix rx (Yn :: rn) → x.holds args s none s [] = true := fun x hx => h x hx
  obtain ⟨T, Z0, L, -, Y⟩ := ThrowableC.of_atoms (args := args) howns hfin hpl (fun x hx => h x (by simp [zoA, ztlA, hx]))
  obtain ⟨Z, M, LZ, LM, hnZ⟩ := Init0T.ofS_atoms (args := args) hpl L Y (fun x hx => h x (by simp [zoA, ztlA, hx]))
  obtain ⟨P1, Ps, hlen, L1, hL, hP1m, hlink1, hlink⟩ := zchX (args := args) hpl hnZ x0 x1 x2 x5 Yn rn cls hcls hnames (fun x hx => h x (by simp [zoA, ztlA, hx]))
  have hfound : s.vm.findClass cls = some P1.m.cls := findClass_of_methodNamed hP1m
  cases Option.some.inj (hfoundX.symm.trans hfound)
  obtain ⟨c1, kX', hc1, hk, hord, -, -, hn6⟩ := Cond.instantiable_spec (a' (.instantiable cls 6) (by simp [zoA, ztlA]))
  cases Option.some.inj (hc1.symm.trans hfound)
  cases Option.some.inj (hkX.symm.trans hk)
  have hsel0 : selectMethod e.platform s.vm P1.m.cls T.fill0 = .method T.fill0 := by
    obtain ⟨c2, r2, m2, q1, q2, q3, q4, -⟩ := Cond.selects_spec (a' (.selects cls Bundle.tFill0 Bundle.tFill0) (by simp [zoA, ztlA]))
    cases Option.some.inj (q1.symm.trans hfound)
    cases Option.some.inj (q2.symm.trans (State.methodFound?_of_named Y.fill0 (by decide)))
    cases Option.some.inj (q3.symm.trans Y.fill0)
    rw [Launch.admits_selectMethod X.admits]; exact q4
  have hselF : selectMethod e.platform s.vm P1.m.cls T.fill = .method T.fill := by
    obtain ⟨c2, r2, m2, q1, q2, q3, q4, -⟩ := Cond.selects_spec (a' (.selects cls Bundle.tFill Bundle.tFill) (by simp [zoA, ztlA]))
    cases Option.some.inj (q1.symm.trans hfound)
    cases Option.some.inj (q2.symm.trans (State.methodFound?_of_named Y.fill (by decide)))
    cases Option.some.inj (q3.symm.trans Y.fill)
    rw [Launch.admits_selectMethod X.admits]; exact q4
  obtain ⟨cellS0, hcS0, hiss⟩ := Y.statics
  obtain ⟨u0, hu0⟩ := Cond.staticRefV Y.unassigned L.unassignedStatic L.statics hcS0 hiss (a' (.isRef (.static Bundle.tN "UNASSIGNED_STACK" Bundle.steD)) (by simp [zoA, ztlA]))
  obtain ⟨sen, hsen⟩ := Cond.staticRefV Y.sentinel L.sentinelStatic L.statics hcS0 hiss (a' (.isRef (.static Bundle.tN "SUPPRESSED_SENTINEL" Bundle.listD)) (by simp [zoA, ztlA]))
  obtain ⟨ci198, i198, fB, hk198, hg198, ha198, hsB, -, hnB, htB, hffB⟩ := Cond.ownField (t := .object "java/lang/Object") Y.found L.cls (by decide +kernel) (a' (.fieldLink Bundle.tN 198 Bundle.tN "backtrace" "Ljava/lang/Object;") (by simp [zoA, ztlA])) (a' (.lays Bundle.tN Bundle.tN "backtrace" "Ljava/lang/Object;") (by simp [zoA, ztlA])) e.platform hpl
  obtain ⟨cellS, hcS', heS, -, hkeep⟩ := X.same.2.2.2.2.2 T.aS cellS0 hcS0
  have hcellS : W.heap[T.aS]? = some cellS := hcS'
  have hout' : ∀ i, (⟨T.aS, i⟩ : Loc) ∉ locs := fun i hmem => by
    have := hlocs _ hmem cellS0 hcS0
    rw [hiss] at this; cases this
  have hknownS : cellS.vm ≠ .unknown := by
    rw [heS]; intro hu
    rw [show cellS0.vm = .unknown from hu] at hiss
    cases hiss
  have hneS : T.aS ≠ a := Nat.ne_of_lt (Nat.lt_of_lt_of_le (Array.getElem?_eq_some_iff.mp hcS0).1 hnew)
  obtain ⟨iM, hffM⟩ := Y.msg
  obtain ⟨tyC, dC, hdC, hdnC⟩ := Cond.laysAt hfound hk Y.cause (a' (.lays cls Bundle.tN "cause" "Ljava/lang/Throwable;") (by simp [zoA, ztlA]))
  obtain ⟨tyS, dS, hdS, hdnS⟩ := Cond.laysAt hfound hk Y.stack (a' (.lays cls Bundle.tN "stackTrace" Bundle.steD) (by simp [zoA, ztlA]))
  obtain ⟨tyP, dP, hdP, hdnP⟩ := Cond.laysAt hfound hk Y.supp (a' (.lays cls Bundle.tN "suppressedExceptions" Bundle.listD) (by simp [zoA, ztlA]))
  obtain ⟨tyM, dM, hdM, hdnM⟩ := Cond.laysAt hfound hk hffM (a' (.lays cls Bundle.tN "detailMessage" "Ljava/lang/String;") (by simp [zoA, ztlA]))
  obtain ⟨tyB, dB, hdB, hdnB⟩ := Cond.laysAt hfound hk hffB (a' (.lays cls Bundle.tN "backtrace" "Ljava/lang/Object;") (by simp [zoA, ztlA]))
  have bC := Cond.laysApart hdB hdC hdnB hdnC (by rw [hnB, Y.causeName]; decide)
  have bS := Cond.laysApart hdB hdS hdnB hdnS (by rw [hnB, Y.stackName]; decide)
  have bP := Cond.laysApart hdB hdP hdnB hdnP (by rw [hnB, Y.suppName]; decide)
  have hskip : SkipFacts T e.platform s (fun u => u) u0 ((preparedCellV T.toThrowableT (freshCell P1.m.cls kX) a u0 sen).withEntry W.cur) :=
    ⟨{ ci198 := ci198, i198 := i198, fBack := fB }, ⟨hk198, hg198, ha198, hsB⟩, by
      have := fresh_default (c := P1.m.cls) tyB
      rw [htB] at this
      simpa [preparedCellV, Cell.setSlot, Cell.withEntry, Array.getElem?_setIfInBounds, bC, bS, bP, bC.symm, bS.symm, bP.symm, defaultValue] using this, fun _ _ => rfl⟩
  obtain ⟨tm, methC, cdC, kC, vm₁, hnC, -, -, -, -, -, -, -, hW₁, st1⟩ := Steps.initColdS (tb := p.tables) (e := e) (below := below) (s := s) (U := W) X.here hexec X.warmed hpl hown (t := Bundle.initS cls) rfl rfl (Bundle.fit_spec hcls).2
    (a' (.methodLink own ic (Bundle.initS cls)) (by simp [zoA, ztlA])) (h (.instanceMethod (Bundle.initS cls)) (by simp [zoA, zchA, Bundle.passSAtoms])) (bytes := rx) (maxL := 2) (h (.code (Bundle.initS cls) rx 2 none) (by simp [zoA, zchA, Bundle.passSAtoms]))
    (f := g) hg (a := a) (msg := msg) (rest := .ref a :: rest) hstack hd6
  cases Option.some.inj (hnC.symm.trans hP1m)
  have X₁ := X.noted hW₁
  obtain ⟨vm₂, X₂, st2⟩ := X₁.ctorMessageOffV hexec (g := { g with stack := .ref a :: rest }) hg hsize T L Z LZ M LM (P1 :: Ps)
    (fun P hP => by rcases List.mem_cons.mp hP with rfl | hP; exact L1; exact hL P hP) ⟨hlink1, hlink⟩ (u0 := u0) (sen := sen) (self := a) hmsg (cell := freshCell P1.m.cls kX) (cellS := cellS)
    hcell (fun _ => by simp) (by simp) rfl rfl hsel0 hselF hcellS hneS hknownS (by rw [hkeep _ (hout' _)]; exact hu0) (by rw [hkeep _ (hout' _)]; exact hsen)
    (Takes.of_laid hk hord tyC (by rw [Y.causeType]; rfl)) (Takes.of_laid hk hord tyS (by rw [Y.stackType]; exact fits_refV_array _ u0)) (Takes.of_laid hk hord tyP (by rw [Y.suppType]; exact fits_refV_object _ sen))
    (Takes.of_laid hk hord tyM (by rw [Y.msgType]; exact fits_refV_object _ ⟨msg, hmsg⟩)) Y.objLocals hskip htr [] hd6
    (by simp only [List.length_cons, hlen] at hRframes ⊢; omega) (by simp only [List.length_cons, hlen] at hRlocals ⊢; exact hRlocals)
  have hlt : a < ((W.setVm vm₁).setVm vm₂).heap.size := (Array.getElem?_eq_some_iff.mp hcell).1
  refine ⟨(W.setVm vm₁).setVm vm₂, _, _, X₂, fun y hy => ?_, hlt, rfl, rfl, fun target hwalk => st1 _ (fun acts => ?_)⟩
  · simp only [List.mem_cons, List.not_mem_nil, or_false] at hy
    rcases hy with rfl | rfl | rfl | rfl | rfl <;> rfl
  · rw [doInvoke_state]
    exact st2 _ hwalk
end ZXK
section ZXL
variable {p : Program} {l : Launch} {e : Env} {R : Room} {s : State} {m : MethodId} {args : Array Value} {below : List Frame} {meth : Method} {c : Code} {H : Heap} {locs : List Loc} {cells slots : Nat} {Q : State → Prop} {ls : Array Slot} {rest : List Value}
theorem vx_back9 {T S : State} {R' : Room} {k n : Nat} (X : Stand p l e R s m args below meth c T locs cells slots) (Y : Stand p l e R' ((T.setVm s.vm).setFrames (.invoking m args :: below)) m args below meth c T [] 0 0) (Z : Stand p l e R' ((T.setVm s.vm).setFrames (.invoking m args :: below)) m args below meth c S [] k n) :
    Stand p l e R s m args below meth c S locs (cells + k) (slots + n) := by
  have hW0 : s.WarmedH ((T.setVm s.vm).setFrames (.invoking m args :: below)).vm := State.WarmedH.refl s
  refine { admits := X.admits, cas := X.cas, clock := X.clock, frames := X.frames, room := X.room, hears := X.hears, method := X.method, code := X.code, here := Z.here, tail := Z.tail, warmed := State.WarmedH.trans hW0 Z.warmed, limits := Z.limits.trans (Y.limits.symm.trans X.limits), bytes := Z.bytes.trans (Y.bytes.symm.trans X.bytes), same := ?_ }
  obtain ⟨e1, e2⟩ := Z.same
  rw [State.setFrames_setFrames] at e1
  have h2 : (T.setVm s.vm).sameButNew (S.setVm s.vm) [] k n := ⟨e1, e2⟩
  have h3 := X.same.trans h2
  rw [List.append_nil] at h3
  exact h3
set_option maxHeartbeats 4000000 in
theorem zmakeX {cc : ByteArray} {pc : Nat} (hexec : p.tables.exec = Jvm.exec) (hb : c.code = cc) (hl : l.stackTraces = false) {own cls text : String} {Yn : String} {rn : List String} {ik is ic sa : Nat} {ix : Nat} {rx : ByteArray} (x0 : decode rx 0 = .ok (.aload_n 0, 1)) (x1 : decode rx 1 = .ok (.aload_n 1, 1)) (x2 : decode rx 2 = .ok (.invokespecial ix, 3)) (x5 : decode rx 5 = .ok (.return_, 1)) {A : Nat → Prop}
    (hown : s.vm.findClass own = some m.cls) (hcls : Bundle.fit cls = true) (hnames : ∀ n ∈ Yn :: rn, Bundle.fit n = true)
    (hk : (Cond.classLink own ik cls).before args s = true) (hini : (Cond.initialized cls).before args s = true) (hstr : vk_R own is text sa s) (hat : ∀ w ∈ (zoA own ic cls ix rx (Yn :: rn)).filter vx_no, w.before args s = true)
    (hgood : ∀ w ∈ Cond.classLink own ik cls :: Cond.initialized cls :: (zoA own ic cls ix rx (Yn :: rn)).filter vx_no, vx_ot w = true)
    (hU : vx_Zq Bundle.tN "UNASSIGNED_STACK" Bundle.steD A s s.heap) (hN : vx_Zq Bundle.tN "SUPPRESSED_SENTINEL" Bundle.listD A s s.heap) (hS : va_S A s.heap H locs) (hsize : ls.size = c.maxLocals)
    (d0 : decode cc pc = .ok (.new ik, 3)) (d3 : decode cc (pc + 3) = .ok (.dup, 1)) (d4 : decode cc (pc + 4) = .ok (.ldc is, 2)) (d6 : decode cc (pc + 6) = .ok (.invokespecial ic, 3))
    (hRframes : (Yn :: rn).length + 3 < R.frames) (hRlocals : (rest.map fun v => v.category).sum + (13 * ((Yn :: rn).length + 1) + 43) ≤ R.locals) (hRcells : cells + 1 ≤ R.cells) (hRslots : slots + 6 ≤ R.slots)
    (kk : ∀ (q : Nat) (H1 : Heap) (ce : Cell), H1[q]? = some ce → ce.vm = .none → s.vm.findClass cls = some ce.cls → H.size ≤ H1.size → (∀ x : Nat, x < H.size → H1[x]? = H[x]?) → va_S A s.heap H1 locs → W p l e R s m args below meth c H1 locs (cells + 1) (slots + 6) Q (F0 m (pc + 9) ls (.ref q :: rest))) :
    W p l e R s m args below meth c H locs cells slots Q (F0 m pc ls rest) := by
  intro T hT X
  subst hT
  have htr : e.platform.stackTraces = false := (show e.platform.stackTraces = l.stackTraces by rw [X.admits.platform]).trans hl
  have Y := vx_rebase X (R' := { frames := R.frames, locals := R.locals, cells := 1, slots := 6 }) (Nat.le_refl _) (Nat.le_refl _) hRcells hRslots
  obtain ⟨s', hA'⟩ : ∃ z, z = (T.setVm s.vm).setFrames (.invoking m args :: below) := ⟨_, rfl⟩
  rw [← hA'] at Y
  have hvm : s'.vm = s.vm := by rw [hA']; rfl
  have hhp : s'.heap = T.heap := by rw [hA']; rfl
  have hW0 : s.WarmedH s'.vm := by rw [hvm]; exact State.WarmedH.refl s
  have hat' : ∀ w ∈ (zoA own ic cls ix rx (Yn :: rn)).filter vx_no, w.before args s' = true := fun w hw => vx_ot_at hW0 hvm.symm (hgood w (List.mem_cons_of_mem _ (List.mem_cons_of_mem _ hw))) (hat w hw)
  have hk' : (Cond.classLink own ik cls).before args s' = true := vx_ot_at hW0 hvm.symm (hgood _ List.mem_cons_self) hk
  have hini' : (Cond.initialized cls).before args s' = true := vx_ot_at hW0 hvm.symm (hgood _ (List.mem_cons_of_mem _ List.mem_cons_self)) hini
  have hU' : vx_Zq Bundle.tN "UNASSIGNED_STACK" Bundle.steD A s' s'.heap := by rw [hhp]; exact vx_Zq.moved hW0.alike (hU.kept hS.2.1)
  have hN' : vx_Zq Bundle.tN "SUPPRESSED_SENTINEL" Bundle.listD A s' s'.heap := by rw [hhp]; exact vx_Zq.moved hW0.alike (hN.kept hS.2.1)
  have h : ∀ w ∈ zoA own ic cls ix rx (Yn :: rn), w.before args s' = true := vx_own hat' (vx_isRefq hU'.1) (vx_isRefq hN'.1) hU'.2.word hN'.2.word
  have hown' : s'.vm.findClass own = some m.cls := by rw [hvm]; exact hown
  have hins : (Cond.instantiable cls 6).before args s' = true := h _ (by simp [zoA, ztlA])
  obtain ⟨vm₁, cX, kX, hfX, hkX, -, -, X₁, st1⟩ := Y.newCold hexec (own := own) (C := cls) (index := ik) (n := 6) hown' hk' hins hini'
    (g := F0 m pc ls rest) rfl (by rw [hb]; exact d0) (Nat.le_refl _) (Nat.le_refl _)
  generalize hT1 : (T.setVm vm₁).pushCell { cls := cX, slots := kX.instanceTypes.map defaultValue, vm := .none } = T1 at X₁ st1
  have hcat : (Value.ref T.heap.size).category = 1 := rfl
  have hcellA : T1.heap[T.heap.size]? = some (freshCell cX kX) := by rw [← hT1]; exact State.heap_pushCell_size _ _
  have d3' : decode c.code (pc + 3) = .ok (.dup, 1) := by rw [hb]; exact d3
  have d4' : decode c.code (pc + 4) = .ok (.ldc is, 2) := by rw [hb]; exact d4
  have hstr' : vk_R own is text sa s' := vk_R.warm hW0 hstr
  obtain ⟨V, ce, L, Z, hL, hlt, hcl9, hvm9, st⟩ := zctorM X₁ hexec htr (own := own) (cls := cls) (Yn := Yn) (rn := rn) (ic := ic) x0 x1 x2 x5 hown' hcls hnames h (fun x hx => nomatch hx) hfX hkX hcellA (by rw [hhp]; exact Nat.le_refl _) (msg := .ref sa) rfl
    (g := { method := m, pc := pc + 6, locals := ls, stack := .ref sa :: .ref T.heap.size :: .ref T.heap.size :: rest, locked := none }) rfl hsize (rest := rest) rfl
    (by rw [hb]; exact d6) hRframes (by simp only [List.map_cons, List.sum_cons, hcat]; omega)
  have Z0 := Stand.forget (locs := []) Z (fun y hy => by rw [hL y hy, hhp]; exact Nat.le_refl _)
  obtain ⟨f1, f2⟩ := vx_frame Z0.same
  rw [hhp] at f1 f2
  have hcid : s.vm.findClass cls = some ce.cls := by
    rw [hcl9, ← hvm]; exact hfX
  have hh : (V.setCell T.heap.size ce).heap[T.heap.size]? = some ce := heapAt_setCell_self (s := V) ce hlt
  subst hA'
  have X5 := vx_back9 X Y Z0
  have X6 : Stand p l e R s m args below meth c (V.setCell T.heap.size ce) locs (cells + 1) (slots + 6) := { X5 with same := X5.same.mono (by omega) (by omega) }
  obtain ⟨t, a1, b1⟩ := kk T.heap.size (V.setCell T.heap.size ce).heap ce hh hvm9 hcid f1 (fun q hq => f2 q hq (fun z hz => nomatch hz)) ⟨Nat.le_trans hS.1 f1, fun q h1 h2 => (f2 q (Nat.lt_of_lt_of_le h1 hS.1) (fun z hz => nomatch hz)).trans (hS.2.1 q h1 h2), hS.2.2⟩ _ rfl X6
  refine ⟨t, st1 _ ?_, b1⟩
  show Steps p.tables e below (T1.setTop { method := m, pc := pc + 3, locals := ls, stack := .ref T.heap.size :: rest, locked := none }) _
  jvm_step X₁.here [X₁.here.top, hexec, d3', Value.category]
  exact X₁.ldcString hexec (own := own) (text := text) (index := is) (a := sa) hown' hstr'.1 hstr'.2
    (g := { method := m, pc := pc + 4, locals := ls, stack := .ref T.heap.size :: .ref T.heap.size :: rest, locked := none }) rfl d4' _ (st _ a1)
set_option maxHeartbeats 4000000 in
theorem zmakeXW {cc : ByteArray} {pc : Nat} (hexec : p.tables.exec = Jvm.exec) (hb : c.code = cc) (hl : l.stackTraces = false) {own cls text : String} {Yn : String} {rn : List String} {ik is ic sa : Nat} {ix : Nat} {rx : ByteArray} (x0 : decode rx 0 = .ok (.aload_n 0, 1)) (x1 : decode rx 1 = .ok (.aload_n 1, 1)) (x2 : decode rx 2 = .ok (.invokespecial ix, 3)) (x5 : decode rx 5 = .ok (.return_, 1)) {A : Nat → Prop}
    (hown : s.vm.findClass own = some m.cls) (hcls : Bundle.fit cls = true) (hnames : ∀ n ∈ Yn :: rn, Bundle.fit n = true)
    (hk : (Cond.classLink own ik cls).before args s = true) (hini : (Cond.initialized cls).before args s = true) (hstr : vk_R own is text sa s) (hat : ∀ w ∈ (zoA own ic cls ix rx (Yn :: rn)).filter vx_no, w.before args s = true)
    (hgood : ∀ w ∈ Cond.classLink own ik cls :: Cond.initialized cls :: (zoA own ic cls ix rx (Yn :: rn)).filter vx_no, vx_ot w = true)
    (hU : vx_Zq Bundle.tN "UNASSIGNED_STACK" Bundle.steD A s s.heap) (hN : vx_Zq Bundle.tN "SUPPRESSED_SENTINEL" Bundle.listD A s s.heap) (hS : va_S A s.heap H locs) (hsize : ls.size = c.maxLocals)
    (d0 : decode cc pc = .ok (.new ik, 3)) (d3 : decode cc (pc + 3) = .ok (.dup, 1)) (d4 : decode cc (pc + 4) = .ok (.ldc_w is, 3)) (d6 : decode cc (pc + 7) = .ok (.invokespecial ic, 3))
    (hRframes : (Yn :: rn).length + 3 < R.frames) (hRlocals : (rest.map fun v => v.category).sum + (13 * ((Yn :: rn).length + 1) + 43) ≤ R.locals) (hRcells : cells + 1 ≤ R.cells) (hRslots : slots + 6 ≤ R.slots)
    (kk : ∀ (q : Nat) (H1 : Heap) (ce : Cell), H1[q]? = some ce → ce.vm = .none → s.vm.findClass cls = some ce.cls → H.size ≤ H1.size → (∀ x : Nat, x < H.size → H1[x]? = H[x]?) → va_S A s.heap H1 locs → W p l e R s m args below meth c H1 locs (cells + 1) (slots + 6) Q (F0 m (pc + 10) ls (.ref q :: rest))) :
    W p l e R s m args below meth c H locs cells slots Q (F0 m pc ls rest) := by
  intro T hT X
  subst hT
  have htr : e.platform.stackTraces = false := (show e.platform.stackTraces = l.stackTraces by rw [X.admits.platform]).trans hl
  have Y := vx_rebase X (R' := { frames := R.frames, locals := R.locals, cells := 1, slots := 6 }) (Nat.le_refl _) (Nat.le_refl _) hRcells hRslots
  obtain ⟨s', hA'⟩ : ∃ z, z = (T.setVm s.vm).setFrames (.invoking m args :: below) := ⟨_, rfl⟩
  rw [← hA'] at Y
  have hvm : s'.vm = s.vm := by rw [hA']; rfl
  have hhp : s'.heap = T.heap := by rw [hA']; rfl
  have hW0 : s.WarmedH s'.vm := by rw [hvm]; exact State.WarmedH.refl s
  have hat' : ∀ w ∈ (zoA own ic cls ix rx (Yn :: rn)).filter vx_no, w.before args s' = true := fun w hw => vx_ot_at hW0 hvm.symm (hgood w (List.mem_cons_of_mem _ (List.mem_cons_of_mem _ hw))) (hat w hw)
  have hk' : (Cond.classLink own ik cls).before args s' = true := vx_ot_at hW0 hvm.symm (hgood _ List.mem_cons_self) hk
  have hini' : (Cond.initialized cls).before args s' = true := vx_ot_at hW0 hvm.symm (hgood _ (List.mem_cons_of_mem _ List.mem_cons_self)) hini
  have hU' : vx_Zq Bundle.tN "UNASSIGNED_STACK" Bundle.steD A s' s'.heap := by rw [hhp]; exact vx_Zq.moved hW0.alike (hU.kept hS.2.1)
  have hN' : vx_Zq Bundle.tN "SUPPRESSED_SENTINEL" Bundle.listD A s' s'.heap := by rw [hhp]; exact vx_Zq.moved hW0.alike (hN.kept hS.2.1)
  have h : ∀ w ∈ zoA own ic cls ix rx (Yn :: rn), w.before args s' = true := vx_own hat' (vx_isRefq hU'.1) (vx_isRefq hN'.1) hU'.2.word hN'.2.word
  have hown' : s'.vm.findClass own = some m.cls := by rw [hvm]; exact hown
  have hins : (Cond.instantiable cls 6).before args s' = true := h _ (by simp [zoA, ztlA])
  obtain ⟨vm₁, cX, kX, hfX, hkX, -, -, X₁, st1⟩ := Y.newCold hexec (own := own) (C := cls) (index := ik) (n := 6) hown' hk' hins hini'
    (g := F0 m pc ls rest) rfl (by rw [hb]; exact d0) (Nat.le_refl _) (Nat.le_refl _)
  generalize hT1 : (T.setVm vm₁).pushCell { cls := cX, slots := kX.instanceTypes.map defaultValue, vm := .none } = T1 at X₁ st1
  have hcat : (Value.ref T.heap.size).category = 1 := rfl
  have hcellA : T1.heap[T.heap.size]? = some (freshCell cX kX) := by rw [← hT1]; exact State.heap_pushCell_size _ _
  have d3' : decode c.code (pc + 3) = .ok (.dup, 1) := by rw [hb]; exact d3
  have d4' : decode c.code (pc + 4) = .ok (.ldc_w is, 3) := by rw [hb]; exact d4
  have hstr' : vk_R own is text sa s' := vk_R.warm hW0 hstr
  obtain ⟨V, ce, L, Z, hL, hlt, hcl9, hvm9, st⟩ := zctorM X₁ hexec htr (own := own) (cls := cls) (Yn := Yn) (rn := rn) (ic := ic) x0 x1 x2 x5 hown' hcls hnames h (fun x hx => nomatch hx) hfX hkX hcellA (by rw [hhp]; exact Nat.le_refl _) (msg := .ref sa) rfl
    (g := { method := m, pc := pc + 7, locals := ls, stack := .ref sa :: .ref T.heap.size :: .ref T.heap.size :: rest, locked := none }) rfl hsize (rest := rest) rfl
    (by rw [hb]; exact d6) hRframes (by simp only [List.map_cons, List.sum_cons, hcat]; omega)
  have Z0 := Stand.forget (locs := []) Z (fun y hy => by rw [hL y hy, hhp]; exact Nat.le_refl _)
  obtain ⟨f1, f2⟩ := vx_frame Z0.same
  rw [hhp] at f1 f2
  have hcid : s.vm.findClass cls = some ce.cls := by
    rw [hcl9, ← hvm]; exact hfX
  have hh : (V.setCell T.heap.size ce).heap[T.heap.size]? = some ce := heapAt_setCell_self (s := V) ce hlt
  subst hA'
  have X5 := vx_back9 X Y Z0
  have X6 : Stand p l e R s m args below meth c (V.setCell T.heap.size ce) locs (cells + 1) (slots + 6) := { X5 with same := X5.same.mono (by omega) (by omega) }
  obtain ⟨t, a1, b1⟩ := kk T.heap.size (V.setCell T.heap.size ce).heap ce hh hvm9 hcid f1 (fun q hq => f2 q hq (fun z hz => nomatch hz)) ⟨Nat.le_trans hS.1 f1, fun q h1 h2 => (f2 q (Nat.lt_of_lt_of_le h1 hS.1) (fun z hz => nomatch hz)).trans (hS.2.1 q h1 h2), hS.2.2⟩ _ rfl X6
  refine ⟨t, st1 _ ?_, b1⟩
  show Steps p.tables e below (T1.setTop { method := m, pc := pc + 3, locals := ls, stack := .ref T.heap.size :: rest, locked := none }) _
  jvm_step X₁.here [X₁.here.top, hexec, d3', Value.category]
  exact X₁.ldcStringW hexec (own := own) (text := text) (index := is) (a := sa) hown' hstr'.1 hstr'.2
    (g := { method := m, pc := pc + 4, locals := ls, stack := .ref T.heap.size :: .ref T.heap.size :: rest, locked := none }) rfl d4' _ (st _ a1)
theorem vx_athrow {cc : ByteArray} {pc : Nat} (hexec : p.tables.exec = Jvm.exec) (hb : c.code = cc) {q : Addr} (hdg : decode cc pc = .ok (.athrow, 1)) (k : vx_W p l e R s m args below meth c H locs cells slots Q (F0 m pc ls rest) q) : W p l e R s m args below meth c H locs cells slots Q (F0 m pc ls (.ref q :: rest)) := by
  intro T hT X
  obtain ⟨t, st, hq⟩ := k T hT X
  refine ⟨t, ?_, hq⟩
  have hdg' : decode c.code pc = .ok (.athrow, 1) := by rw [hb]; exact hdg
  jvm_step X.here [X.here.top, hexec, hdg', athrow.wp_sem]
  exact st
end ZXL
end
section
theorem zthw_0 : ∀ w ∈ (vx_atS RX8 174 "java/lang/IndexOutOfBoundsException" ["java/lang/RuntimeException", "java/lang/Exception"]).filter goodWord, w ∈ lw_tbl := by decide +kernel
theorem zthn_0 : ∀ w ∈ (vx_atS RX8 174 "java/lang/IndexOutOfBoundsException" ["java/lang/RuntimeException", "java/lang/Exception"]).filter (fun w => !goodWord w), w ∈ zNs ++ zDs := by decide +kernel
theorem zthg_0 : (Cond.classLink RX8 170 (zex 0) :: Cond.initialized (zex 0) :: vx_atS RX8 174 (zex 0) znm).all vx_ot = true := by decide +kernel
theorem zthk_0 : Cond.classLink RX8 170 (zex 0) ∈ lw_tbl ∧ Cond.initialized (zex 0) ∈ lw_tbl ∧ Bundle.fit (zex 0) = true := by decide +kernel
theorem zthw_2 : ∀ w ∈ (vx_atS RX8 73 "java/lang/IllegalArgumentException" ["java/lang/RuntimeException", "java/lang/Exception"]).filter goodWord, w ∈ lw_tbl := by decide +kernel
theorem zthn_2 : ∀ w ∈ (vx_atS RX8 73 "java/lang/IllegalArgumentException" ["java/lang/RuntimeException", "java/lang/Exception"]).filter (fun w => !goodWord w), w ∈ zNs ++ zDs := by decide +kernel
theorem zthg_2 : (Cond.classLink RX8 69 (zex 2) :: Cond.initialized (zex 2) :: vx_atS RX8 73 (zex 2) znm).all vx_ot = true := by decide +kernel
theorem zthk_2 : Cond.classLink RX8 69 (zex 2) ∈ lw_tbl ∧ Cond.initialized (zex 2) ∈ lw_tbl ∧ Bundle.fit (zex 2) = true := by decide +kernel
theorem zthw_3 : ∀ w ∈ (vx_atS RX8 83 "java/lang/UnsupportedOperationException" ["java/lang/RuntimeException", "java/lang/Exception"]).filter goodWord, w ∈ lw_tbl := by decide +kernel
theorem zthn_3 : ∀ w ∈ (vx_atS RX8 83 "java/lang/UnsupportedOperationException" ["java/lang/RuntimeException", "java/lang/Exception"]).filter (fun w => !goodWord w), w ∈ zNs ++ zDs := by decide +kernel
theorem zthg_3 : (Cond.classLink RX8 79 (zex 3) :: Cond.initialized (zex 3) :: vx_atS RX8 83 (zex 3) znm).all vx_ot = true := by decide +kernel
theorem zthk_3 : Cond.classLink RX8 79 (zex 3) ∈ lw_tbl ∧ Cond.initialized (zex 3) ∈ lw_tbl ∧ Bundle.fit (zex 3) = true := by decide +kernel
theorem zthw_4 : ∀ w ∈ (vx_atS RX8 215 "java/lang/IllegalStateException" ["java/lang/RuntimeException", "java/lang/Exception"]).filter goodWord, w ∈ lw_tbl := by decide +kernel
theorem zthn_4 : ∀ w ∈ (vx_atS RX8 215 "java/lang/IllegalStateException" ["java/lang/RuntimeException", "java/lang/Exception"]).filter (fun w => !goodWord w), w ∈ zNs ++ zDs := by decide +kernel
theorem zthg_4 : (Cond.classLink RX8 211 (zex 4) :: Cond.initialized (zex 4) :: vx_atS RX8 215 (zex 4) znm).all vx_ot = true := by decide +kernel
theorem zthk_4 : Cond.classLink RX8 211 (zex 4) ∈ lw_tbl ∧ Cond.initialized (zex 4) ∈ lw_tbl ∧ Bundle.fit (zex 4) = true := by decide +kernel
def zthE (e ik ic : Nat) : Bool := match e with
  | 0 => ik == 170 && ic == 174
  | 2 => ik == 69 && ic == 73
  | 3 => ik == 79 && ic == 83
  | 4 => ik == 211 && ic == 215
  | _ => false
theorem zth_words {e ik ic : Nat} (h : zthE e ik ic = true) : (∀ w ∈ vx_atS RX8 ic (zex e) znm, w ∈ zWs ∨ w ∈ zNs ++ zDs) ∧ (∀ w ∈ Cond.classLink RX8 ik (zex e) :: Cond.initialized (zex e) :: vx_atS RX8 ic (zex e) znm, vx_ot w = true) ∧ Cond.classLink RX8 ik (zex e) ∈ zWs ∧ Cond.initialized (zex e) ∈ zWs ∧ Bundle.fit (zex e) = true := by
  have key : ∀ {L : List Cond}, (∀ w ∈ L.filter goodWord, w ∈ lw_tbl) → (∀ w ∈ L.filter (fun w => !goodWord w), w ∈ zNs ++ zDs) → ∀ w ∈ L, w ∈ zWs ∨ w ∈ zNs ++ zDs := by
    intro L h1 h2 w hw
    cases hg : goodWord w with
    | true => exact Or.inl (List.mem_filter.mpr ⟨h1 w (List.mem_filter.mpr ⟨hw, hg⟩), hg⟩)
    | false => exact Or.inr (h2 w (List.mem_filter.mpr ⟨hw, by rw [hg]; rfl⟩))
  match e, h with
  | 0, h => simp only [zthE, Bool.and_eq_true, beq_iff_eq] at h; obtain ⟨rfl, rfl⟩ := h; exact ⟨key zthw_0 zthn_0, fun w hw => List.all_eq_true.mp zthg_0 w hw, List.mem_filter.mpr ⟨zthk_0.1, rfl⟩, List.mem_filter.mpr ⟨zthk_0.2.1, rfl⟩, zthk_0.2.2⟩
  | 2, h => simp only [zthE, Bool.and_eq_true, beq_iff_eq] at h; obtain ⟨rfl, rfl⟩ := h; exact ⟨key zthw_2 zthn_2, fun w hw => List.all_eq_true.mp zthg_2 w hw, List.mem_filter.mpr ⟨zthk_2.1, rfl⟩, List.mem_filter.mpr ⟨zthk_2.2.1, rfl⟩, zthk_2.2.2⟩
  | 3, h => simp only [zthE, Bool.and_eq_true, beq_iff_eq] at h; obtain ⟨rfl, rfl⟩ := h; exact ⟨key zthw_3 zthn_3, fun w hw => List.all_eq_true.mp zthg_3 w hw, List.mem_filter.mpr ⟨zthk_3.1, rfl⟩, List.mem_filter.mpr ⟨zthk_3.2.1, rfl⟩, zthk_3.2.2⟩
  | 4, h => simp only [zthE, Bool.and_eq_true, beq_iff_eq] at h; obtain ⟨rfl, rfl⟩ := h; exact ⟨key zthw_4 zthn_4, fun w hw => List.all_eq_true.mp zthg_4 w hw, List.mem_filter.mpr ⟨zthk_4.1, rfl⟩, List.mem_filter.mpr ⟨zthk_4.2.1, rfl⟩, zthk_4.2.2⟩
  | 1, h => cases h
  | k + 5, h => cases h
def zthc (t : Nat × Nat × Nat × Nat × Nat × Nat × Nat × Nat) : Bool := (t.1 / 200 == 8) && (zthE t.2.2.1 t.2.2.2.1 t.2.2.2.2.2.1 || (t.2.2.1 == 1 && t.2.2.2.1 == 131 && t.2.2.2.2.2.1 == 135)) && decide (zfe t.1 t.2.1 = some (.new t.2.2.2.1, 3)) && decide (zfe t.1 (t.2.1 + 3) = some (.dup, 1)) && (match zstr[t.2.2.2.2.2.2.2]? with
  | some q => q.1 == 8 && q.2.1 == t.2.2.2.2.1
  | none => false) && (match t.2.2.2.2.2.2.1 with
  | 0 => decide (zfe t.1 (t.2.1 + 4) = some (.ldc t.2.2.2.2.1, 2)) && decide (zfe t.1 (t.2.1 + 6) = some (.invokespecial t.2.2.2.2.2.1, 3)) && decide (zfe t.1 (t.2.1 + 9) = some (.athrow, 1))
  | _ => decide (zfe t.1 (t.2.1 + 4) = some (.ldc_w t.2.2.2.2.1, 3)) && decide (zfe t.1 (t.2.1 + 7) = some (.invokespecial t.2.2.2.2.2.1, 3)) && decide (zfe t.1 (t.2.1 + 10) = some (.athrow, 1)))
theorem zthc_ok : ∀ t ∈ zth, zthc t = true := List.all_eq_true.mp (show zth.all zthc = true by decide +kernel)
abbrev zrxN : ByteArray := prog_30_method_4_code
theorem zNx0 : decode zrxN 0 = .ok (.aload_n 0, 1) := by decide +kernel
theorem zNx1 : decode zrxN 1 = .ok (.aload_n 1, 1) := by decide +kernel
theorem zNx2 : decode zrxN 2 = .ok (.invokespecial 13, 3) := by decide +kernel
theorem zNx5 : decode zrxN 5 = .ok (.return_, 1) := by decide +kernel
abbrev zNA : List Cond := (zoA RX8 135 "java/util/NoSuchElementException" 13 zrxN ["java/lang/RuntimeException", "java/lang/Exception"]).filter vx_no
theorem zNw : ∀ w ∈ zNA.filter goodWord, w ∈ lw_tbl := by decide +kernel
theorem zNn : ∀ w ∈ zNA.filter (fun w => !goodWord w), w ∈ zNs ++ zDs := by decide +kernel
theorem zNg : (Cond.classLink RX8 131 "java/util/NoSuchElementException" :: Cond.initialized "java/util/NoSuchElementException" :: zNA).all vx_ot = true := by decide +kernel
theorem zNk2 : Cond.classLink RX8 131 "java/util/NoSuchElementException" ∈ lw_tbl ∧ Cond.initialized "java/util/NoSuchElementException" ∈ lw_tbl ∧ Bundle.fit "java/util/NoSuchElementException" = true := by decide +kernel
theorem zNall : ∀ w ∈ zNA, w ∈ zWs ∨ w ∈ zNs ++ zDs := by
  intro w hw
  cases hg : goodWord w with
  | true => exact Or.inl (List.mem_filter.mpr ⟨zNw w (List.mem_filter.mpr ⟨hw, hg⟩), hg⟩)
  | false => exact Or.inr (zNn w (List.mem_filter.mpr ⟨hw, by rw [hg]; rfl⟩))
theorem znm_fit : ∀ n ∈ znm, Bundle.fit n = true := by decide +kernel
end
section
theorem zd_0_0_0 : zkall cX0_init zk_0_0_0 = true := by decide +kernel
theorem zd_0_0 : zkall cX0_init zk_0_0 = true := zd_0_0_0
theorem zd_0_1_0 : zkall cX0_copyFrom zk_0_1_0 = true := by decide +kernel
theorem zd_0_1 : zkall cX0_copyFrom zk_0_1 = true := zd_0_1_0
theorem zd_0_2_0 : zkall cX0_begin zk_0_2_0 = true := by decide +kernel
theorem zd_0_2 : zkall cX0_begin zk_0_2 = true := zd_0_2_0
theorem zd_0_3_0 : zkall cX0_close zk_0_3_0 = true := by decide +kernel
theorem zd_0_3 : zkall cX0_close zk_0_3 = true := zd_0_3_0
theorem zd_0_4_0 : zkall cX0_leavesOut zk_0_4_0 = true := by decide +kernel
theorem zd_0_4 : zkall cX0_leavesOut zk_0_4 = true := zd_0_4_0
theorem zd_0_5_0 : zkall cX0_leaveOut zk_0_5_0 = true := by decide +kernel
theorem zd_0_5 : zkall cX0_leaveOut zk_0_5 = true := zd_0_5_0
theorem zd_0_6_0 : zkall cX0_latestLeftOut zk_0_6_0 = true := by decide +kernel
theorem zd_0_6 : zkall cX0_latestLeftOut zk_0_6 = true := zd_0_6_0
theorem zd_0_7_0 : zkall cX0_write zk_0_7_0 = true := by decide +kernel
theorem zd_0_7 : zkall cX0_write zk_0_7 = true := zd_0_7_0
theorem zd_0_8_0 : zkall cX0_hasValue zk_0_8_0 = true := by decide +kernel
theorem zd_0_8 : zkall cX0_hasValue zk_0_8 = true := zd_0_8_0
theorem zd_1_0_0 : zkall cX1_init zk_1_0_0 = true := by decide +kernel
theorem zd_1_0 : zkall cX1_init zk_1_0 = true := zd_1_0_0
theorem zd_1_1_0 : zkall cX1_copyFrom zk_1_1_0 = true := by decide +kernel
theorem zd_1_1 : zkall cX1_copyFrom zk_1_1 = true := zd_1_1_0
theorem zd_1_2_0 : zkall cX1_gain zk_1_2_0 = true := by decide +kernel
theorem zd_1_2 : zkall cX1_gain zk_1_2 = true := zd_1_2_0
theorem zd_1_3_0 : zkall cX1_lose zk_1_3_0 = true := by decide +kernel
theorem zd_1_3 : zkall cX1_lose zk_1_3 = true := zd_1_3_0
theorem zd_2_0_0 : zkall cX2_init zk_2_0_0 = true := by decide +kernel
theorem zd_2_0 : zkall cX2_init zk_2_0 = true := zd_2_0_0
theorem zd_2_1_0 : zkall cX2_copyFrom zk_2_1_0 = true := by decide +kernel
theorem zd_2_1 : zkall cX2_copyFrom zk_2_1 = true := zd_2_1_0
theorem zd_2_2_0 : zkall cX2_add zk_2_2_0 = true := by decide +kernel
theorem zd_2_2 : zkall cX2_add zk_2_2 = true := zd_2_2_0
theorem zd_2_3_0 : zkall cX2_cell zk_2_3_0 = true := by decide +kernel
theorem zd_2_3 : zkall cX2_cell zk_2_3 = true := zd_2_3_0
theorem zd_3_0_0 : zkall cX3_init zk_3_0_0 = true := by decide +kernel
theorem zd_3_0_1 : zkall cX3_init zk_3_0_1 = true := by decide +kernel
theorem zd_3_0 : zkall cX3_init zk_3_0 = true := zkall_app zd_3_0_0 (zd_3_0_1)
theorem zd_3_1_0 : zkall cX3_copyFrom zk_3_1_0 = true := by decide +kernel
theorem zd_3_1_1 : zkall cX3_copyFrom zk_3_1_1 = true := by decide +kernel
theorem zd_3_1 : zkall cX3_copyFrom zk_3_1 = true := zkall_app zd_3_1_0 (zd_3_1_1)
theorem zd_3_2_0 : zkall cX3_strandAt zk_3_2_0 = true := by decide +kernel
theorem zd_3_2 : zkall cX3_strandAt zk_3_2 = true := zd_3_2_0
theorem zd_3_3_0 : zkall cX3_lockAt zk_3_3_0 = true := by decide +kernel
theorem zd_3_3 : zkall cX3_lockAt zk_3_3 = true := zd_3_3_0
theorem zd_3_4_0 : zkall cX3_blockBit zk_3_4_0 = true := by decide +kernel
theorem zd_3_4 : zkall cX3_blockBit zk_3_4 = true := zd_3_4_0
theorem zd_3_5_0 : zkall cX3_seenBy zk_3_5_0 = true := by decide +kernel
theorem zd_3_5 : zkall cX3_seenBy zk_3_5 = true := zd_3_5_0
theorem zd_3_6_0 : zkall cX3_isGuessing zk_3_6_0 = true := by decide +kernel
theorem zd_3_6 : zkall cX3_isGuessing zk_3_6 = true := zd_3_6_0
theorem zd_3_7_0 : zkall cX3_isDone zk_3_7_0 = true := by decide +kernel
theorem zd_3_7 : zkall cX3_isDone zk_3_7 = true := zd_3_7_0
theorem zd_3_8_0 : zkall cX3_nextByTurn zk_3_8_0 = true := by decide +kernel
theorem zd_3_8 : zkall cX3_nextByTurn zk_3_8 = true := zd_3_8_0
theorem zd_3_9_0 : zkall cX3_nextByDraw zk_3_9_0 = true := by decide +kernel
theorem zd_3_9 : zkall cX3_nextByDraw zk_3_9 = true := zd_3_9_0
theorem zd_3_10_0 : zkall cX3_draw zk_3_10_0 = true := by decide +kernel
theorem zd_3_10 : zkall cX3_draw zk_3_10 = true := zd_3_10_0
theorem zd_3_11_0 : zkall cX3_takeStep zk_3_11_0 = true := by decide +kernel
theorem zd_3_11 : zkall cX3_takeStep zk_3_11 = true := zd_3_11_0
theorem zd_3_12_0 : zkall cX3_moveOn zk_3_12_0 = true := by decide +kernel
theorem zd_3_12 : zkall cX3_moveOn zk_3_12 = true := zd_3_12_0
theorem zd_3_13_0 : zkall cX3_takePlainly zk_3_13_0 = true := by decide +kernel
theorem zd_3_13_1 : zkall cX3_takePlainly zk_3_13_1 = true := by decide +kernel
theorem zd_3_13 : zkall cX3_takePlainly zk_3_13 = true := zkall_app zd_3_13_0 (zd_3_13_1)
theorem zd_3_14_0 : zkall cX3_takeGuessing zk_3_14_0 = true := by decide +kernel
theorem zd_3_14 : zkall cX3_takeGuessing zk_3_14 = true := zd_3_14_0
theorem zd_3_15_0 : zkall cX3_dropLock zk_3_15_0 = true := by decide +kernel
theorem zd_3_15 : zkall cX3_dropLock zk_3_15 = true := zd_3_15_0
theorem zd_3_16_0 : zkall cX3_keep zk_3_16_0 = true := by decide +kernel
theorem zd_3_16 : zkall cX3_keep zk_3_16 = true := zd_3_16_0
theorem zd_3_17_0 : zkall cX3_getWord zk_3_17_0 = true := by decide +kernel
theorem zd_3_17 : zkall cX3_getWord zk_3_17 = true := zd_3_17_0
theorem zd_3_18_0 : zkall cX3_goOnWorking zk_3_18_0 = true := by decide +kernel
theorem zd_3_18 : zkall cX3_goOnWorking zk_3_18 = true := zd_3_18_0
theorem zd_3_19_0 : zkall cX3_putOut zk_3_19_0 = true := by decide +kernel
theorem zd_3_19 : zkall cX3_putOut zk_3_19 = true := zd_3_19_0
theorem zd_3_20_0 : zkall cX3_reach zk_3_20_0 = true := by decide +kernel
theorem zd_3_20_1 : zkall cX3_reach zk_3_20_1 = true := by decide +kernel
theorem zd_3_20 : zkall cX3_reach zk_3_20 = true := zkall_app zd_3_20_0 (zd_3_20_1)
theorem zd_3_21_0 : zkall cX3_isFull zk_3_21_0 = true := by decide +kernel
theorem zd_3_21 : zkall cX3_isFull zk_3_21 = true := zd_3_21_0
theorem zd_3_22_0 : zkall cX3_holdersOf zk_3_22_0 = true := by decide +kernel
theorem zd_3_22 : zkall cX3_holdersOf zk_3_22 = true := zd_3_22_0
theorem zd_3_23_0 : zkall cX3_anyBefore zk_3_23_0 = true := by decide +kernel
theorem zd_3_23 : zkall cX3_anyBefore zk_3_23 = true := zd_3_23_0
theorem zd_3_24_0 : zkall cX3_fall zk_3_24_0 = true := by decide +kernel
theorem zd_3_24 : zkall cX3_fall zk_3_24 = true := zd_3_24_0
theorem zd_3_25_0 : zkall cX3_blocksOf zk_3_25_0 = true := by decide +kernel
theorem zd_3_25 : zkall cX3_blocksOf zk_3_25 = true := zd_3_25_0
theorem zd_3_26_0 : zkall cX3_leavingOut zk_3_26_0 = true := by decide +kernel
theorem zd_3_26 : zkall cX3_leavingOut zk_3_26 = true := zd_3_26_0
theorem zd_3_27_0 : zkall cX3_doneBits zk_3_27_0 = true := by decide +kernel
theorem zd_3_27 : zkall cX3_doneBits zk_3_27 = true := zd_3_27_0
theorem zd_3_28_0 : zkall cX3_guessingBits zk_3_28_0 = true := by decide +kernel
theorem zd_3_28 : zkall cX3_guessingBits zk_3_28 = true := zd_3_28_0
theorem zd_3_29_0 : zkall cX3_lockBits zk_3_29_0 = true := by decide +kernel
theorem zd_3_29 : zkall cX3_lockBits zk_3_29 = true := zd_3_29_0
theorem zd_3_30_0 : zkall cX3_allKept zk_3_30_0 = true := by decide +kernel
theorem zd_3_30 : zkall cX3_allKept zk_3_30 = true := zd_3_30_0
theorem zd_3_31_0 : zkall cX3_isWordOfOther zk_3_31_0 = true := by decide +kernel
theorem zd_3_31 : zkall cX3_isWordOfOther zk_3_31 = true := zd_3_31_0
theorem zd_4_0_0 : zkall cX4_init zk_4_0_0 = true := by decide +kernel
theorem zd_4_0 : zkall cX4_init zk_4_0 = true := zd_4_0_0
theorem zd_4_1_0 : zkall cX4_forget zk_4_1_0 = true := by decide +kernel
theorem zd_4_1 : zkall cX4_forget zk_4_1 = true := zd_4_1_0
theorem zd_4_2_0 : zkall cX4_threadOf zk_4_2_0 = true := by decide +kernel
theorem zd_4_2 : zkall cX4_threadOf zk_4_2 = true := zd_4_2_0
theorem zd_4_3_0 : zkall cX4_search zk_4_3_0 = true := by decide +kernel
theorem zd_4_3 : zkall cX4_search zk_4_3 = true := zd_4_3_0
theorem zd_4_4_0 : zkall cX4_placeFrom zk_4_4_0 = true := by decide +kernel
theorem zd_4_4 : zkall cX4_placeFrom zk_4_4 = true := zd_4_4_0
theorem zd_4_5_0 : zkall cX4_playPart zk_4_5_0 = true := by decide +kernel
theorem zd_4_5 : zkall cX4_playPart zk_4_5 = true := zd_4_5_0
theorem zd_4_6_0 : zkall cX4_playDeed zk_4_6_0 = true := by decide +kernel
theorem zd_4_6 : zkall cX4_playDeed zk_4_6 = true := zd_4_6_0
theorem zd_4_7_0 : zkall cX4_playOutput zk_4_7_0 = true := by decide +kernel
theorem zd_4_7 : zkall cX4_playOutput zk_4_7 = true := zd_4_7_0
theorem zd_4_8_0 : zkall cX4_cameOut zk_4_8_0 = true := by decide +kernel
theorem zd_4_8 : zkall cX4_cameOut zk_4_8 = true := zd_4_8_0
end
section
theorem zd_5_0_0 : zkall cX5_init zk_5_0_0 = true := by decide +kernel
theorem zd_5_0 : zkall cX5_init zk_5_0 = true := zd_5_0_0
theorem zd_5_1_0 : zkall cX5_readAll zk_5_1_0 = true := by decide +kernel
theorem zd_5_1 : zkall cX5_readAll zk_5_1 = true := zd_5_1_0
theorem zd_5_2_0 : zkall cX5_readLine zk_5_2_0 = true := by decide +kernel
theorem zd_5_2 : zkall cX5_readLine zk_5_2 = true := zd_5_2_0
theorem zd_5_3_0 : zkall cX5_readTerm zk_5_3_0 = true := by decide +kernel
theorem zd_5_3 : zkall cX5_readTerm zk_5_3 = true := zd_5_3_0
theorem zd_5_4_0 : zkall cX5_readTrust zk_5_4_0 = true := by decide +kernel
theorem zd_5_4 : zkall cX5_readTrust zk_5_4 = true := zd_5_4_0
theorem zd_5_5_0 : zkall cX5_readWord zk_5_5_0 = true := by decide +kernel
theorem zd_5_5 : zkall cX5_readWord zk_5_5 = true := zd_5_5_0
theorem zd_5_6_0 : zkall cX5_readLock zk_5_6_0 = true := by decide +kernel
theorem zd_5_6 : zkall cX5_readLock zk_5_6 = true := zd_5_6_0
theorem zd_5_7_0 : zkall cX5_readProgram zk_5_7_0 = true := by decide +kernel
theorem zd_5_7 : zkall cX5_readProgram zk_5_7 = true := zd_5_7_0
theorem zd_5_8_0 : zkall cX5_readDeed zk_5_8_0 = true := by decide +kernel
theorem zd_5_8 : zkall cX5_readDeed zk_5_8 = true := zd_5_8_0
theorem zd_5_9_0 : zkall cX5_lookAhead zk_5_9_0 = true := by decide +kernel
theorem zd_5_9 : zkall cX5_lookAhead zk_5_9 = true := zd_5_9_0
theorem zd_5_10_0 : zkall cX5_skipSign zk_5_10_0 = true := by decide +kernel
theorem zd_5_10 : zkall cX5_skipSign zk_5_10 = true := zd_5_10_0
theorem zd_5_11_0 : zkall cX5_readName zk_5_11_0 = true := by decide +kernel
theorem zd_5_11 : zkall cX5_readName zk_5_11 = true := zd_5_11_0
theorem zd_5_12_0 : zkall cX5_readNumber zk_5_12_0 = true := by decide +kernel
theorem zd_5_12 : zkall cX5_readNumber zk_5_12 = true := zd_5_12_0
theorem zd_6_0_0 : zkall cX6_init zk_6_0_0 = true := by decide +kernel
theorem zd_6_0 : zkall cX6_init zk_6_0 = true := zd_6_0_0
theorem zd_6_1_0 : zkall cX6_copyFrom zk_6_1_0 = true := by decide +kernel
theorem zd_6_1 : zkall cX6_copyFrom zk_6_1 = true := zd_6_1_0
theorem zd_6_2_0 : zkall cX6_clear zk_6_2_0 = true := by decide +kernel
theorem zd_6_2 : zkall cX6_clear zk_6_2 = true := zd_6_2_0
theorem zd_6_3_0 : zkall cX6_addDeed zk_6_3_0 = true := by decide +kernel
theorem zd_6_3 : zkall cX6_addDeed zk_6_3 = true := zd_6_3_0
theorem zd_6_4_0 : zkall cX6_kindAt zk_6_4_0 = true := by decide +kernel
theorem zd_6_4 : zkall cX6_kindAt zk_6_4 = true := zd_6_4_0
theorem zd_6_5_0 : zkall cX6_numberAt zk_6_5_0 = true := by decide +kernel
theorem zd_6_5 : zkall cX6_numberAt zk_6_5 = true := zd_6_5_0
theorem zd_6_6_0 : zkall cX6_isDone zk_6_6_0 = true := by decide +kernel
theorem zd_6_6 : zkall cX6_isDone zk_6_6 = true := zd_6_6_0
theorem zd_6_7_0 : zkall cX6_allFalls zk_6_7_0 = true := by decide +kernel
theorem zd_6_7 : zkall cX6_allFalls zk_6_7 = true := zd_6_7_0
theorem zd_6_8_0 : zkall cX6_heldBehind zk_6_8_0 = true := by decide +kernel
theorem zd_6_8 : zkall cX6_heldBehind zk_6_8 = true := zd_6_8_0
theorem zd_6_9_0 : zkall cX6_mostHeld zk_6_9_0 = true := by decide +kernel
theorem zd_6_9 : zkall cX6_mostHeld zk_6_9 = true := zd_6_9_0
theorem zd_6_10_0 : zkall cX6_partEnd zk_6_10_0 = true := by decide +kernel
theorem zd_6_10 : zkall cX6_partEnd zk_6_10 = true := zd_6_10_0
theorem zd_6_11_0 : zkall cX6_partCount zk_6_11_0 = true := by decide +kernel
theorem zd_6_11 : zkall cX6_partCount zk_6_11 = true := zd_6_11_0
theorem zd_7_0_0 : zkall cX7_init zk_7_0_0 = true := by decide +kernel
theorem zd_7_0 : zkall cX7_init zk_7_0 = true := zd_7_0_0
theorem zd_7_1_0 : zkall cX7_write zk_7_1_0 = true := by decide +kernel
theorem zd_7_1 : zkall cX7_write zk_7_1 = true := zd_7_1_0
theorem zd_7_2_0 : zkall cX7_byteAt zk_7_2_0 = true := by decide +kernel
theorem zd_7_2 : zkall cX7_byteAt zk_7_2 = true := zd_7_2_0
theorem zd_7_3_0 : zkall cX7_putByte zk_7_3_0 = true := by decide +kernel
theorem zd_7_3 : zkall cX7_putByte zk_7_3 = true := zd_7_3_0
theorem zd_7_4_0 : zkall cX7_putName zk_7_4_0 = true := by decide +kernel
theorem zd_7_4 : zkall cX7_putName zk_7_4 = true := zd_7_4_0
theorem zd_7_5_0 : zkall cX7_putNumber zk_7_5_0 = true := by decide +kernel
theorem zd_7_5 : zkall cX7_putNumber zk_7_5 = true := zd_7_5_0
theorem zd_8_0_0 : zkall cX8_init zk_8_0_0 = true := by decide +kernel
theorem zd_8_0 : zkall cX8_init zk_8_0 = true := zd_8_0_0
theorem zd_8_1_0 : zkall cX8_feed zk_8_1_0 = true := by decide +kernel
theorem zd_8_1 : zkall cX8_feed zk_8_1 = true := zd_8_1_0
theorem zd_8_2_0 : zkall cX8_feedOne zk_8_2_0 = true := by decide +kernel
theorem zd_8_2 : zkall cX8_feedOne zk_8_2 = true := zd_8_2_0
theorem zd_8_3_0 : zkall cX8_end zk_8_3_0 = true := by decide +kernel
theorem zd_8_3 : zkall cX8_end zk_8_3 = true := zd_8_3_0
theorem zd_8_4_0 : zkall cX8_machine zk_8_4_0 = true := by decide +kernel
theorem zd_8_4 : zkall cX8_machine zk_8_4 = true := zd_8_4_0
theorem zd_8_5_0 : zkall cX8_fault zk_8_5_0 = true := by decide +kernel
theorem zd_8_5 : zkall cX8_fault zk_8_5 = true := zd_8_5_0
theorem zd_8_6_0 : zkall cX8_thread zk_8_6_0 = true := by decide +kernel
theorem zd_8_6 : zkall cX8_thread zk_8_6 = true := zd_8_6_0
theorem zd_8_7_0 : zkall cX8_leftOut zk_8_7_0 = true := by decide +kernel
theorem zd_8_7 : zkall cX8_leftOut zk_8_7 = true := zd_8_7_0
theorem zd_8_8_0 : zkall cX8_blocks zk_8_8_0 = true := by decide +kernel
theorem zd_8_8 : zkall cX8_blocks zk_8_8 = true := zd_8_8_0
theorem zd_8_9_0 : zkall cX8_fell zk_8_9_0 = true := by decide +kernel
theorem zd_8_9 : zkall cX8_fell zk_8_9 = true := zd_8_9_0
theorem zd_8_10_0 : zkall cX8_word zk_8_10_0 = true := by decide +kernel
theorem zd_8_10 : zkall cX8_word zk_8_10 = true := zd_8_10_0
theorem zd_8_11_0 : zkall cX8_sees zk_8_11_0 = true := by decide +kernel
theorem zd_8_11 : zkall cX8_sees zk_8_11 = true := zd_8_11_0
theorem zd_8_12_0 : zkall cX8_lock zk_8_12_0 = true := by decide +kernel
theorem zd_8_12 : zkall cX8_lock zk_8_12 = true := zd_8_12_0
theorem zd_8_13_0 : zkall cX8_term zk_8_13_0 = true := by decide +kernel
theorem zd_8_13 : zkall cX8_term zk_8_13 = true := zd_8_13_0
theorem zd_8_14_0 : zkall cX8_deed zk_8_14_0 = true := by decide +kernel
theorem zd_8_14 : zkall cX8_deed zk_8_14 = true := zd_8_14_0
theorem zd_8_15_0 : zkall cX8_step zk_8_15_0 = true := by decide +kernel
theorem zd_8_15 : zkall cX8_step zk_8_15 = true := zd_8_15_0
theorem zd_8_16_0 : zkall cX8_run zk_8_16_0 = true := by decide +kernel
theorem zd_8_16 : zkall cX8_run zk_8_16 = true := zd_8_16_0
theorem zd_8_17_0 : zkall cX8_chance zk_8_17_0 = true := by decide +kernel
theorem zd_8_17 : zkall cX8_chance zk_8_17 = true := zd_8_17_0
theorem zd_8_18_0 : zkall cX8_goOn zk_8_18_0 = true := by decide +kernel
theorem zd_8_18 : zkall cX8_goOn zk_8_18 = true := zd_8_18_0
theorem zd_8_19_0 : zkall cX8_poke zk_8_19_0 = true := by decide +kernel
theorem zd_8_19 : zkall cX8_poke zk_8_19 = true := zd_8_19_0
theorem zd_8_20_0 : zkall cX8_tune zk_8_20_0 = true := by decide +kernel
theorem zd_8_20 : zkall cX8_tune zk_8_20 = true := zd_8_20_0
theorem zd_8_21_0 : zkall cX8_seed zk_8_21_0 = true := by decide +kernel
theorem zd_8_21 : zkall cX8_seed zk_8_21 = true := zd_8_21_0
theorem zd_8_22_0 : zkall cX8_due zk_8_22_0 = true := by decide +kernel
theorem zd_8_22 : zkall cX8_due zk_8_22 = true := zd_8_22_0
theorem zd_8_23_0 : zkall cX8_quickest zk_8_23_0 = true := by decide +kernel
theorem zd_8_23 : zkall cX8_quickest zk_8_23 = true := zd_8_23_0
theorem zd_8_24_0 : zkall cX8_plain zk_8_24_0 = true := by decide +kernel
theorem zd_8_24 : zkall cX8_plain zk_8_24 = true := zd_8_24_0
theorem zd_8_25_0 : zkall cX8_ticksAhead zk_8_25_0 = true := by decide +kernel
theorem zd_8_25 : zkall cX8_ticksAhead zk_8_25 = true := zd_8_25_0
theorem zd_8_26_0 : zkall cX8_touches zk_8_26_0 = true := by decide +kernel
theorem zd_8_26 : zkall cX8_touches zk_8_26 = true := zd_8_26_0
theorem zd_8_27_0 : zkall cX8_rivals zk_8_27_0 = true := by decide +kernel
theorem zd_8_27 : zkall cX8_rivals zk_8_27 = true := zd_8_27_0
theorem zd_8_28_0 : zkall cX8_nest zk_8_28_0 = true := by decide +kernel
theorem zd_8_28 : zkall cX8_nest zk_8_28 = true := zd_8_28_0
theorem zd_8_29_0 : zkall cX8_parts zk_8_29_0 = true := by decide +kernel
theorem zd_8_29 : zkall cX8_parts zk_8_29 = true := zd_8_29_0
theorem zd_8_30_0 : zkall cX8_serial zk_8_30_0 = true := by decide +kernel
theorem zd_8_30 : zkall cX8_serial zk_8_30 = true := zd_8_30_0
theorem zd_8_31_0 : zkall cX8_output zk_8_31_0 = true := by decide +kernel
theorem zd_8_31 : zkall cX8_output zk_8_31 = true := zd_8_31_0
theorem zd_8_32_0 : zkall cX8_log zk_8_32_0 = true := by decide +kernel
theorem zd_8_32 : zkall cX8_log zk_8_32 = true := zd_8_32_0
theorem zd_8_33_0 : zkall cX8_text zk_8_33_0 = true := by decide +kernel
theorem zd_8_33 : zkall cX8_text zk_8_33 = true := zd_8_33_0
theorem zd_8_34_0 : zkall cX8_octet zk_8_34_0 = true := by decide +kernel
theorem zd_8_34 : zkall cX8_octet zk_8_34 = true := zd_8_34_0
theorem zd_8_35_0 : zkall cX8_image zk_8_35_0 = true := by decide +kernel
theorem zd_8_35 : zkall cX8_image zk_8_35 = true := zd_8_35_0
theorem zd_8_36_0 : zkall cX8_back zk_8_36_0 = true := by decide +kernel
theorem zd_8_36 : zkall cX8_back zk_8_36 = true := zd_8_36_0
theorem zd_8_37_0 : zkall cX8_count zk_8_37_0 = true := by decide +kernel
theorem zd_8_37 : zkall cX8_count zk_8_37 = true := zd_8_37_0
theorem zd_8_38_0 : zkall cX8_strandOf zk_8_38_0 = true := by decide +kernel
theorem zd_8_38 : zkall cX8_strandOf zk_8_38 = true := zd_8_38_0
theorem zd_8_39_0 : zkall cX8_wordOf zk_8_39_0 = true := by decide +kernel
theorem zd_8_39 : zkall cX8_wordOf zk_8_39 = true := zd_8_39_0
theorem zd_8_40_0 : zkall cX8_whatOfTwo zk_8_40_0 = true := by decide +kernel
theorem zd_8_40 : zkall cX8_whatOfTwo zk_8_40 = true := zd_8_40_0
theorem zd_8_41_0 : zkall cX8_ticksOf zk_8_41_0 = true := by decide +kernel
theorem zd_8_41 : zkall cX8_ticksOf zk_8_41 = true := zd_8_41_0
end
section
theorem zd_9_0_0 : zkall cX9_thrown zk_9_0_0 = true := by decide +kernel
theorem zd_9_0 : zkall cX9_thrown zk_9_0 = true := zd_9_0_0
theorem zd_9_1_0 : zkall cX9_throwsIf zk_9_1_0 = true := by decide +kernel
theorem zd_9_1 : zkall cX9_throwsIf zk_9_1 = true := zd_9_1_0
theorem zd_9_2_0 : zkall cX9_in zk_9_2_0 = true := by decide +kernel
theorem zd_9_2 : zkall cX9_in zk_9_2 = true := zd_9_2_0
theorem zd_9_3_0 : zkall cX9_holds zk_9_3_0 = true := by decide +kernel
theorem zd_9_3 : zkall cX9_holds zk_9_3 = true := zd_9_3_0
theorem zd_9_4_0 : zkall cX9_bits zk_9_4_0 = true := by decide +kernel
theorem zd_9_4 : zkall cX9_bits zk_9_4 = true := zd_9_4_0
theorem zd_9_5_0 : zkall cX9_init zk_9_5_0 = true := by decide +kernel
theorem zd_9_5_1 : zkall cX9_init zk_9_5_1 = true := by decide +kernel
theorem zd_9_5 : zkall cX9_init zk_9_5 = true := zkall_app zd_9_5_0 (zd_9_5_1)
theorem zd_9_6_0 : zkall cX9_copies zk_9_6_0 = true := by decide +kernel
theorem zd_9_6 : zkall cX9_copies zk_9_6 = true := zd_9_6_0
theorem zd_9_7_0 : zkall cX9_image zk_9_7_0 = true := by decide +kernel
theorem zd_9_7 : zkall cX9_image zk_9_7 = true := zd_9_7_0
theorem zd_9_8_0 : zkall cX9_back zk_9_8_0 = true := by decide +kernel
theorem zd_9_8 : zkall cX9_back zk_9_8 = true := zd_9_8_0
theorem zd_9_9_0 : zkall cX9_threads zk_9_9_0 = true := by decide +kernel
theorem zd_9_9 : zkall cX9_threads zk_9_9 = true := zd_9_9_0
theorem zd_9_10_0 : zkall cX9_at zk_9_10_0 = true := by decide +kernel
theorem zd_9_10 : zkall cX9_at zk_9_10 = true := zd_9_10_0
theorem zd_9_11_0 : zkall cX9_of zk_9_11_0 = true := by decide +kernel
theorem zd_9_11 : zkall cX9_of zk_9_11 = true := zd_9_11_0
theorem zd_9_12_0 : zkall cX9_isDone zk_9_12_0 = true := by decide +kernel
theorem zd_9_12 : zkall cX9_isDone zk_9_12 = true := zd_9_12_0
theorem zd_9_13_0 : zkall cX9_deedOf zk_9_13_0 = true := by decide +kernel
theorem zd_9_13 : zkall cX9_deedOf zk_9_13 = true := zd_9_13_0
theorem zd_9_14_0 : zkall cX9_blockOf zk_9_14_0 = true := by decide +kernel
theorem zd_9_14 : zkall cX9_blockOf zk_9_14 = true := zd_9_14_0
theorem zd_9_15_0 : zkall cX9_logs zk_9_15_0 = true := by decide +kernel
theorem zd_9_15 : zkall cX9_logs zk_9_15 = true := zd_9_15_0
theorem zd_9_16_0 : zkall cX9_ends zk_9_16_0 = true := by decide +kernel
theorem zd_9_16 : zkall cX9_ends zk_9_16 = true := zd_9_16_0
theorem zd_9_17_0 : zkall cX9_falls zk_9_17_0 = true := by decide +kernel
theorem zd_9_17 : zkall cX9_falls zk_9_17 = true := zd_9_17_0
theorem zd_9_18_0 : zkall cX9_itFalls zk_9_18_0 = true := by decide +kernel
theorem zd_9_18 : zkall cX9_itFalls zk_9_18 = true := zd_9_18_0
theorem zd_9_19_0 : zkall cX9_clashing zk_9_19_0 = true := by decide +kernel
theorem zd_9_19 : zkall cX9_clashing zk_9_19 = true := zd_9_19_0
theorem zd_9_20_0 : zkall cX9_yields zk_9_20_0 = true := by decide +kernel
theorem zd_9_20 : zkall cX9_yields zk_9_20 = true := zd_9_20_0
theorem zd_9_21_0 : zkall cX9_clears zk_9_21_0 = true := by decide +kernel
theorem zd_9_21 : zkall cX9_clears zk_9_21 = true := zd_9_21_0
theorem zd_9_22_0 : zkall cX9_seen zk_9_22_0 = true := by decide +kernel
theorem zd_9_22 : zkall cX9_seen zk_9_22 = true := zd_9_22_0
theorem zd_9_23_0 : zkall cX9_reads zk_9_23_0 = true := by decide +kernel
theorem zd_9_23 : zkall cX9_reads zk_9_23 = true := zd_9_23_0
theorem zd_9_24_0 : zkall cX9_writes zk_9_24_0 = true := by decide +kernel
theorem zd_9_24 : zkall cX9_writes zk_9_24 = true := zd_9_24_0
theorem zd_9_25_0 : zkall cX9_placeLeft zk_9_25_0 = true := by decide +kernel
theorem zd_9_25 : zkall cX9_placeLeft zk_9_25 = true := zd_9_25_0
theorem zd_9_26_0 : zkall cX9_leavesOut zk_9_26_0 = true := by decide +kernel
theorem zd_9_26 : zkall cX9_leavesOut zk_9_26 = true := zd_9_26_0
theorem zd_9_27_0 : zkall cX9_beginsGuess zk_9_27_0 = true := by decide +kernel
theorem zd_9_27 : zkall cX9_beginsGuess zk_9_27 = true := zd_9_27_0
theorem zd_9_28_0 : zkall cX9_isTaken zk_9_28_0 = true := by decide +kernel
theorem zd_9_28 : zkall cX9_isTaken zk_9_28 = true := zd_9_28_0
theorem zd_9_29_0 : zkall cX9_takes zk_9_29_0 = true := by decide +kernel
theorem zd_9_29_1 : zkall cX9_takes zk_9_29_1 = true := by decide +kernel
theorem zd_9_29 : zkall cX9_takes zk_9_29 = true := zkall_app zd_9_29_0 (zd_9_29_1)
theorem zd_9_30_0 : zkall cX9_isKept zk_9_30_0 = true := by decide +kernel
theorem zd_9_30 : zkall cX9_isKept zk_9_30 = true := zd_9_30_0
theorem zd_9_31_0 : zkall cX9_drops zk_9_31_0 = true := by decide +kernel
theorem zd_9_31 : zkall cX9_drops zk_9_31 = true := zd_9_31_0
theorem zd_9_32_0 : zkall cX9_works zk_9_32_0 = true := by decide +kernel
theorem zd_9_32 : zkall cX9_works zk_9_32 = true := zd_9_32_0
theorem zd_9_33_0 : zkall cX9_putsOut zk_9_33_0 = true := by decide +kernel
theorem zd_9_33 : zkall cX9_putsOut zk_9_33 = true := zd_9_33_0
theorem zd_9_34_0 : zkall cX9_does zk_9_34_0 = true := by decide +kernel
theorem zd_9_34 : zkall cX9_does zk_9_34 = true := zd_9_34_0
theorem zd_9_35_0 : zkall cX9_steps zk_9_35_0 = true := by decide +kernel
theorem zd_9_35 : zkall cX9_steps zk_9_35 = true := zd_9_35_0
theorem zd_9_36_0 : zkall cX9_doneOnes zk_9_36_0 = true := by decide +kernel
theorem zd_9_36 : zkall cX9_doneOnes zk_9_36 = true := zd_9_36_0
theorem zd_9_37_0 : zkall cX9_areAllDone zk_9_37_0 = true := by decide +kernel
theorem zd_9_37 : zkall cX9_areAllDone zk_9_37 = true := zd_9_37_0
theorem zd_9_38_0 : zkall cX9_nextOne zk_9_38_0 = true := by decide +kernel
theorem zd_9_38 : zkall cX9_nextOne zk_9_38 = true := zd_9_38_0
theorem zd_9_39_0 : zkall cX9_drawOf zk_9_39_0 = true := by decide +kernel
theorem zd_9_39 : zkall cX9_drawOf zk_9_39 = true := zd_9_39_0
end
section
theorem zd_9_40_0 : zkall cX9_drawnOne zk_9_40_0 = true := by decide +kernel
theorem zd_9_40 : zkall cX9_drawnOne zk_9_40 = true := zd_9_40_0
theorem zd_9_41_0 : zkall cX9_feed zk_9_41_0 = true := by decide +kernel
theorem zd_9_41 : zkall cX9_feed zk_9_41 = true := zd_9_41_0
theorem zd_9_42_0 : zkall cX9_end zk_9_42_0 = true := by decide +kernel
theorem zd_9_42 : zkall cX9_end zk_9_42 = true := zd_9_42_0
theorem zd_9_43_0 : zkall cX9_fault zk_9_43_0 = true := by decide +kernel
theorem zd_9_43 : zkall cX9_fault zk_9_43 = true := zd_9_43_0
theorem zd_9_44_0 : zkall cX9_isAt zk_9_44_0 = true := by decide +kernel
theorem zd_9_44 : zkall cX9_isAt zk_9_44 = true := zd_9_44_0
theorem zd_9_45_0 : zkall cX9_blanks zk_9_45_0 = true := by decide +kernel
theorem zd_9_45 : zkall cX9_blanks zk_9_45 = true := zd_9_45_0
theorem zd_9_46_0 : zkall cX9_letters zk_9_46_0 = true := by decide +kernel
theorem zd_9_46 : zkall cX9_letters zk_9_46 = true := zd_9_46_0
theorem zd_9_47_0 : zkall cX9_isWord zk_9_47_0 = true := by decide +kernel
theorem zd_9_47 : zkall cX9_isWord zk_9_47 = true := zd_9_47_0
theorem zd_9_48_0 : zkall cX9_passesSign zk_9_48_0 = true := by decide +kernel
theorem zd_9_48 : zkall cX9_passesSign zk_9_48 = true := zd_9_48_0
theorem zd_9_49_0 : zkall cX9_number zk_9_49_0 = true := by decide +kernel
theorem zd_9_49 : zkall cX9_number zk_9_49 = true := zd_9_49_0
theorem zd_9_50_0 : zkall cX9_readTo zk_9_50_0 = true := by decide +kernel
theorem zd_9_50 : zkall cX9_readTo zk_9_50 = true := zd_9_50_0
theorem zd_9_51_0 : zkall cX9_kindHere zk_9_51_0 = true := by decide +kernel
theorem zd_9_51 : zkall cX9_kindHere zk_9_51 = true := zd_9_51_0
theorem zd_9_52_0 : zkall cX9_readDeed zk_9_52_0 = true := by decide +kernel
theorem zd_9_52 : zkall cX9_readDeed zk_9_52 = true := zd_9_52_0
theorem zd_9_53_0 : zkall cX9_readThread zk_9_53_0 = true := by decide +kernel
theorem zd_9_53 : zkall cX9_readThread zk_9_53 = true := zd_9_53_0
theorem zd_9_54_0 : zkall cX9_readWordLine zk_9_54_0 = true := by decide +kernel
theorem zd_9_54 : zkall cX9_readWordLine zk_9_54 = true := zd_9_54_0
theorem zd_9_55_0 : zkall cX9_readLock zk_9_55_0 = true := by decide +kernel
theorem zd_9_55 : zkall cX9_readLock zk_9_55 = true := zd_9_55_0
theorem zd_9_56_0 : zkall cX9_readTrust zk_9_56_0 = true := by decide +kernel
theorem zd_9_56 : zkall cX9_readTrust zk_9_56 = true := zd_9_56_0
theorem zd_9_57_0 : zkall cX9_leastOf zk_9_57_0 = true := by decide +kernel
theorem zd_9_57 : zkall cX9_leastOf zk_9_57 = true := zd_9_57_0
theorem zd_9_58_0 : zkall cX9_mostOf zk_9_58_0 = true := by decide +kernel
theorem zd_9_58 : zkall cX9_mostOf zk_9_58 = true := zd_9_58_0
theorem zd_9_59_0 : zkall cX9_termHere zk_9_59_0 = true := by decide +kernel
theorem zd_9_59 : zkall cX9_termHere zk_9_59 = true := zd_9_59_0
theorem zd_9_60_0 : zkall cX9_readLine zk_9_60_0 = true := by decide +kernel
theorem zd_9_60 : zkall cX9_readLine zk_9_60 = true := zd_9_60_0
theorem zd_9_61_0 : zkall cX9_readText zk_9_61_0 = true := by decide +kernel
theorem zd_9_61 : zkall cX9_readText zk_9_61 = true := zd_9_61_0
theorem zd_9_62_0 : zkall cX9_machine zk_9_62_0 = true := by decide +kernel
theorem zd_9_62 : zkall cX9_machine zk_9_62 = true := zd_9_62_0
theorem zd_9_63_0 : zkall cX9_noThread zk_9_63_0 = true := by decide +kernel
theorem zd_9_63 : zkall cX9_noThread zk_9_63 = true := zd_9_63_0
theorem zd_9_64_0 : zkall cX9_step zk_9_64_0 = true := by decide +kernel
theorem zd_9_64 : zkall cX9_step zk_9_64 = true := zd_9_64_0
theorem zd_9_65_0 : zkall cX9_goes zk_9_65_0 = true := by decide +kernel
theorem zd_9_65 : zkall cX9_goes zk_9_65 = true := zd_9_65_0
theorem zd_9_66_0 : zkall cX9_run zk_9_66_0 = true := by decide +kernel
theorem zd_9_66 : zkall cX9_run zk_9_66 = true := zd_9_66_0
theorem zd_9_67_0 : zkall cX9_chance zk_9_67_0 = true := by decide +kernel
theorem zd_9_67 : zkall cX9_chance zk_9_67 = true := zd_9_67_0
theorem zd_9_68_0 : zkall cX9_poke zk_9_68_0 = true := by decide +kernel
theorem zd_9_68 : zkall cX9_poke zk_9_68 = true := zd_9_68_0
theorem zd_9_69_0 : zkall cX9_tune zk_9_69_0 = true := by decide +kernel
theorem zd_9_69 : zkall cX9_tune zk_9_69 = true := zd_9_69_0
theorem zd_9_70_0 : zkall cX9_seed zk_9_70_0 = true := by decide +kernel
theorem zd_9_70 : zkall cX9_seed zk_9_70 = true := zd_9_70_0
theorem zd_9_71_0 : zkall cX9_fellOf zk_9_71_0 = true := by decide +kernel
theorem zd_9_71 : zkall cX9_fellOf zk_9_71 = true := zd_9_71_0
theorem zd_9_72_0 : zkall cX9_thread zk_9_72_0 = true := by decide +kernel
theorem zd_9_72 : zkall cX9_thread zk_9_72 = true := zd_9_72_0
theorem zd_9_73_0 : zkall cX9_leftOut zk_9_73_0 = true := by decide +kernel
theorem zd_9_73 : zkall cX9_leftOut zk_9_73 = true := zd_9_73_0
theorem zd_9_74_0 : zkall cX9_blocks zk_9_74_0 = true := by decide +kernel
theorem zd_9_74 : zkall cX9_blocks zk_9_74 = true := zd_9_74_0
theorem zd_9_75_0 : zkall cX9_fell zk_9_75_0 = true := by decide +kernel
theorem zd_9_75 : zkall cX9_fell zk_9_75 = true := zd_9_75_0
theorem zd_9_76_0 : zkall cX9_noWord zk_9_76_0 = true := by decide +kernel
theorem zd_9_76 : zkall cX9_noWord zk_9_76 = true := zd_9_76_0
theorem zd_9_77_0 : zkall cX9_word zk_9_77_0 = true := by decide +kernel
theorem zd_9_77 : zkall cX9_word zk_9_77 = true := zd_9_77_0
theorem zd_9_78_0 : zkall cX9_sees zk_9_78_0 = true := by decide +kernel
theorem zd_9_78 : zkall cX9_sees zk_9_78 = true := zd_9_78_0
theorem zd_9_79_0 : zkall cX9_leavers zk_9_79_0 = true := by decide +kernel
theorem zd_9_79 : zkall cX9_leavers zk_9_79 = true := zd_9_79_0
end
section
theorem zd_9_80_0 : zkall cX9_lock zk_9_80_0 = true := by decide +kernel
theorem zd_9_80 : zkall cX9_lock zk_9_80 = true := zd_9_80_0
theorem zd_9_81_0 : zkall cX9_term zk_9_81_0 = true := by decide +kernel
theorem zd_9_81 : zkall cX9_term zk_9_81 = true := zd_9_81_0
theorem zd_9_82_0 : zkall cX9_deed zk_9_82_0 = true := by decide +kernel
theorem zd_9_82 : zkall cX9_deed zk_9_82 = true := zd_9_82_0
theorem zd_9_83_0 : zkall cX9_output zk_9_83_0 = true := by decide +kernel
theorem zd_9_83 : zkall cX9_output zk_9_83 = true := zd_9_83_0
theorem zd_9_84_0 : zkall cX9_log zk_9_84_0 = true := by decide +kernel
theorem zd_9_84 : zkall cX9_log zk_9_84 = true := zd_9_84_0
theorem zd_9_85_0 : zkall cX9_guessing zk_9_85_0 = true := by decide +kernel
theorem zd_9_85 : zkall cX9_guessing zk_9_85 = true := zd_9_85_0
theorem zd_9_86_0 : zkall cX9_keptAll zk_9_86_0 = true := by decide +kernel
theorem zd_9_86 : zkall cX9_keptAll zk_9_86 = true := zd_9_86_0
theorem zd_9_87_0 : zkall cX9_heldLocks zk_9_87_0 = true := by decide +kernel
theorem zd_9_87 : zkall cX9_heldLocks zk_9_87 = true := zd_9_87_0
theorem zd_9_88_0 : zkall cX9_count zk_9_88_0 = true := by decide +kernel
theorem zd_9_88 : zkall cX9_count zk_9_88 = true := zd_9_88_0
theorem zd_9_89_0 : zkall cX9_dueOf zk_9_89_0 = true := by decide +kernel
theorem zd_9_89 : zkall cX9_dueOf zk_9_89 = true := zd_9_89_0
theorem zd_9_90_0 : zkall cX9_due zk_9_90_0 = true := by decide +kernel
theorem zd_9_90 : zkall cX9_due zk_9_90 = true := zd_9_90_0
theorem zd_9_91_0 : zkall cX9_dueBy zk_9_91_0 = true := by decide +kernel
theorem zd_9_91 : zkall cX9_dueBy zk_9_91 = true := zd_9_91_0
theorem zd_9_92_0 : zkall cX9_quickest zk_9_92_0 = true := by decide +kernel
theorem zd_9_92 : zkall cX9_quickest zk_9_92 = true := zd_9_92_0
theorem zd_9_93_0 : zkall cX9_plain zk_9_93_0 = true := by decide +kernel
theorem zd_9_93 : zkall cX9_plain zk_9_93 = true := zd_9_93_0
theorem zd_9_94_0 : zkall cX9_touched zk_9_94_0 = true := by decide +kernel
theorem zd_9_94 : zkall cX9_touched zk_9_94 = true := zd_9_94_0
theorem zd_9_95_0 : zkall cX9_touches zk_9_95_0 = true := by decide +kernel
theorem zd_9_95 : zkall cX9_touches zk_9_95 = true := zd_9_95_0
theorem zd_9_96_0 : zkall cX9_rivals zk_9_96_0 = true := by decide +kernel
theorem zd_9_96 : zkall cX9_rivals zk_9_96 = true := zd_9_96_0
theorem zd_9_97_0 : zkall cX9_heldBehind zk_9_97_0 = true := by decide +kernel
theorem zd_9_97 : zkall cX9_heldBehind zk_9_97 = true := zd_9_97_0
theorem zd_9_98_0 : zkall cX9_nest zk_9_98_0 = true := by decide +kernel
theorem zd_9_98 : zkall cX9_nest zk_9_98 = true := zd_9_98_0
theorem zd_9_99_0 : zkall cX9_behindPart zk_9_99_0 = true := by decide +kernel
theorem zd_9_99 : zkall cX9_behindPart zk_9_99 = true := zd_9_99_0
theorem zd_9_100_0 : zkall cX9_partsOf zk_9_100_0 = true := by decide +kernel
theorem zd_9_100 : zkall cX9_partsOf zk_9_100 = true := zd_9_100_0
theorem zd_9_101_0 : zkall cX9_parts zk_9_101_0 = true := by decide +kernel
theorem zd_9_101 : zkall cX9_parts zk_9_101 = true := zd_9_101_0
theorem zd_9_102_0 : zkall cX9_doesDeed zk_9_102_0 = true := by decide +kernel
theorem zd_9_102_1 : zkall cX9_doesDeed zk_9_102_1 = true := by decide +kernel
theorem zd_9_102 : zkall cX9_doesDeed zk_9_102 = true := zkall_app zd_9_102_0 (zd_9_102_1)
theorem zd_9_103_0 : zkall cX9_putsWhole zk_9_103_0 = true := by decide +kernel
theorem zd_9_103 : zkall cX9_putsWhole zk_9_103 = true := zd_9_103_0
theorem zd_9_104_0 : zkall cX9_isAsNow zk_9_104_0 = true := by decide +kernel
theorem zd_9_104 : zkall cX9_isAsNow zk_9_104 = true := zd_9_104_0
theorem zd_9_105_0 : zkall cX9_orders zk_9_105_0 = true := by decide +kernel
theorem zd_9_105_1 : zkall cX9_orders zk_9_105_1 = true := by decide +kernel
theorem zd_9_105 : zkall cX9_orders zk_9_105 = true := zkall_app zd_9_105_0 (zd_9_105_1)
theorem zd_9_106_0 : zkall cX9_serial zk_9_106_0 = true := by decide +kernel
theorem zd_9_106 : zkall cX9_serial zk_9_106 = true := zd_9_106_0
theorem zd_9_107_0 : zkall cX9_prints zk_9_107_0 = true := by decide +kernel
theorem zd_9_107 : zkall cX9_prints zk_9_107 = true := zd_9_107_0
theorem zd_9_108_0 : zkall cX9_printsNumber zk_9_108_0 = true := by decide +kernel
theorem zd_9_108 : zkall cX9_printsNumber zk_9_108 = true := zd_9_108_0
theorem zd_9_109_0 : zkall cX9_printsDeed zk_9_109_0 = true := by decide +kernel
theorem zd_9_109 : zkall cX9_printsDeed zk_9_109 = true := zd_9_109_0
theorem zd_9_110_0 : zkall cX9_text zk_9_110_0 = true := by decide +kernel
theorem zd_9_110 : zkall cX9_text zk_9_110 = true := zd_9_110_0
theorem zd_9_111_0 : zkall cX9_octet zk_9_111_0 = true := by decide +kernel
theorem zd_9_111 : zkall cX9_octet zk_9_111 = true := zd_9_111_0
end
section
theorem zd_10_0_0 : zkall cL_machine zk_10_0_0 = true := by decide +kernel
theorem zd_10_0 : zkall cL_machine zk_10_0 = true := zd_10_0_0
theorem zd_10_1_0 : zkall cL_thread zk_10_1_0 = true := by decide +kernel
theorem zd_10_1 : zkall cL_thread zk_10_1 = true := zd_10_1_0
theorem zd_10_2_0 : zkall cL_leftOut zk_10_2_0 = true := by decide +kernel
theorem zd_10_2 : zkall cL_leftOut zk_10_2 = true := zd_10_2_0
theorem zd_10_3_0 : zkall cL_blocks zk_10_3_0 = true := by decide +kernel
theorem zd_10_3 : zkall cL_blocks zk_10_3 = true := zd_10_3_0
theorem zd_10_4_0 : zkall cL_fell zk_10_4_0 = true := by decide +kernel
theorem zd_10_4 : zkall cL_fell zk_10_4 = true := zd_10_4_0
theorem zd_10_5_0 : zkall cL_word zk_10_5_0 = true := by decide +kernel
theorem zd_10_5 : zkall cL_word zk_10_5 = true := zd_10_5_0
theorem zd_10_6_0 : zkall cL_sees zk_10_6_0 = true := by decide +kernel
theorem zd_10_6 : zkall cL_sees zk_10_6 = true := zd_10_6_0
theorem zd_10_7_0 : zkall cL_lock zk_10_7_0 = true := by decide +kernel
theorem zd_10_7 : zkall cL_lock zk_10_7 = true := zd_10_7_0
theorem zd_10_8_0 : zkall cL_term zk_10_8_0 = true := by decide +kernel
theorem zd_10_8 : zkall cL_term zk_10_8 = true := zd_10_8_0
theorem zd_10_9_0 : zkall cL_deed zk_10_9_0 = true := by decide +kernel
theorem zd_10_9 : zkall cL_deed zk_10_9 = true := zd_10_9_0
theorem zd_10_10_0 : zkall cL_step zk_10_10_0 = true := by decide +kernel
theorem zd_10_10 : zkall cL_step zk_10_10 = true := zd_10_10_0
theorem zd_10_11_0 : zkall cL_run zk_10_11_0 = true := by decide +kernel
theorem zd_10_11 : zkall cL_run zk_10_11 = true := zd_10_11_0
theorem zd_10_12_0 : zkall cL_chance zk_10_12_0 = true := by decide +kernel
theorem zd_10_12 : zkall cL_chance zk_10_12 = true := zd_10_12_0
theorem zd_10_13_0 : zkall cL_poke zk_10_13_0 = true := by decide +kernel
theorem zd_10_13 : zkall cL_poke zk_10_13 = true := zd_10_13_0
theorem zd_10_14_0 : zkall cL_tune zk_10_14_0 = true := by decide +kernel
theorem zd_10_14 : zkall cL_tune zk_10_14 = true := zd_10_14_0
theorem zd_10_15_0 : zkall cL_due zk_10_15_0 = true := by decide +kernel
theorem zd_10_15 : zkall cL_due zk_10_15 = true := zd_10_15_0
theorem zd_10_16_0 : zkall cL_quickest zk_10_16_0 = true := by decide +kernel
theorem zd_10_16 : zkall cL_quickest zk_10_16 = true := zd_10_16_0
theorem zd_10_17_0 : zkall cL_touches zk_10_17_0 = true := by decide +kernel
theorem zd_10_17 : zkall cL_touches zk_10_17 = true := zd_10_17_0
theorem zd_10_18_0 : zkall cL_rivals zk_10_18_0 = true := by decide +kernel
theorem zd_10_18 : zkall cL_rivals zk_10_18 = true := zd_10_18_0
theorem zd_10_19_0 : zkall cL_nest zk_10_19_0 = true := by decide +kernel
theorem zd_10_19 : zkall cL_nest zk_10_19 = true := zd_10_19_0
theorem zd_10_20_0 : zkall cL_parts zk_10_20_0 = true := by decide +kernel
theorem zd_10_20 : zkall cL_parts zk_10_20 = true := zd_10_20_0
theorem zd_10_21_0 : zkall cL_output zk_10_21_0 = true := by decide +kernel
theorem zd_10_21 : zkall cL_output zk_10_21 = true := zd_10_21_0
theorem zd_10_22_0 : zkall cL_log zk_10_22_0 = true := by decide +kernel
theorem zd_10_22 : zkall cL_log zk_10_22 = true := zd_10_22_0
theorem zd_10_23_0 : zkall cL_text zk_10_23_0 = true := by decide +kernel
theorem zd_10_23 : zkall cL_text zk_10_23 = true := zd_10_23_0
theorem zd_11_0_0 : zkall cJ6_bitCount_0f7a4 zk_11_0_0 = true := by decide +kernel
theorem zd_11_0 : zkall cJ6_bitCount_0f7a4 zk_11_0 = true := zd_11_0_0
theorem zd_12_0_0 : zkall cJ9_floorMod_7cf53 zk_12_0_0 = true := by decide +kernel
theorem zd_12_0 : zkall cJ9_floorMod_7cf53 zk_12_0 = true := zd_12_0_0
theorem zd_12_1_0 : zkall cJ9_max_7cf53 zk_12_1_0 = true := by decide +kernel
theorem zd_12_1 : zkall cJ9_max_7cf53 zk_12_1 = true := zd_12_1_0
theorem zd_12_2_0 : zkall cJ9_min_7cf53 zk_12_2_0 = true := by decide +kernel
theorem zd_12_2 : zkall cJ9_min_7cf53 zk_12_2 = true := zd_12_2_0
end
section
theorem zd_10_24_0 : zkall cL_law zk_10_24_0 = true := by decide +kernel
theorem zd_10_24_1 : zkall cL_law zk_10_24_1 = true := by decide +kernel
theorem zd_10_24_2 : zkall cL_law zk_10_24_2 = true := by decide +kernel
end
section
theorem zd_10_24_3 : zkall cL_law zk_10_24_3 = true := by decide +kernel
theorem zd_10_24_4 : zkall cL_law zk_10_24_4 = true := by decide +kernel
theorem zd_10_24_5 : zkall cL_law zk_10_24_5 = true := by decide +kernel
end
section
theorem zd_10_24_6 : zkall cL_law zk_10_24_6 = true := by decide +kernel
theorem zd_10_24_7 : zkall cL_law zk_10_24_7 = true := by decide +kernel
theorem zd_10_24_8 : zkall cL_law zk_10_24_8 = true := by decide +kernel
end
section
theorem zd_10_24_9 : zkall cL_law zk_10_24_9 = true := by decide +kernel
theorem zd_10_24_10 : zkall cL_law zk_10_24_10 = true := by decide +kernel
theorem zd_10_24_11 : zkall cL_law zk_10_24_11 = true := by decide +kernel
theorem zd_10_24 : zkall cL_law zk_10_24 = true := zkall_app zd_10_24_0 (zkall_app zd_10_24_1 (zkall_app zd_10_24_2 (zkall_app zd_10_24_3 (zkall_app zd_10_24_4 (zkall_app zd_10_24_5 (zkall_app zd_10_24_6 (zkall_app zd_10_24_7 (zkall_app zd_10_24_8 (zkall_app zd_10_24_9 (zkall_app zd_10_24_10 (zd_10_24_11)))))))))))
theorem zdc_0 : ∀ q ∈ zmc_0, zkall q.2.1 q.2.2.2.2.2 = true := List.forall_mem_cons.mpr ⟨zd_0_0, List.forall_mem_cons.mpr ⟨zd_0_1, List.forall_mem_cons.mpr ⟨zd_0_2, List.forall_mem_cons.mpr ⟨zd_0_3, List.forall_mem_cons.mpr ⟨zd_0_4, List.forall_mem_cons.mpr ⟨zd_0_5, List.forall_mem_cons.mpr ⟨zd_0_6, List.forall_mem_cons.mpr ⟨zd_0_7, List.forall_mem_cons.mpr ⟨zd_0_8, (fun _ h => nomatch h)⟩⟩⟩⟩⟩⟩⟩⟩⟩
theorem zdc_1 : ∀ q ∈ zmc_1, zkall q.2.1 q.2.2.2.2.2 = true := List.forall_mem_cons.mpr ⟨zd_1_0, List.forall_mem_cons.mpr ⟨zd_1_1, List.forall_mem_cons.mpr ⟨zd_1_2, List.forall_mem_cons.mpr ⟨zd_1_3, (fun _ h => nomatch h)⟩⟩⟩⟩
theorem zdc_2 : ∀ q ∈ zmc_2, zkall q.2.1 q.2.2.2.2.2 = true := List.forall_mem_cons.mpr ⟨zd_2_0, List.forall_mem_cons.mpr ⟨zd_2_1, List.forall_mem_cons.mpr ⟨zd_2_2, List.forall_mem_cons.mpr ⟨zd_2_3, (fun _ h => nomatch h)⟩⟩⟩⟩
theorem zdc_3 : ∀ q ∈ zmc_3, zkall q.2.1 q.2.2.2.2.2 = true := List.forall_mem_cons.mpr ⟨zd_3_0, List.forall_mem_cons.mpr ⟨zd_3_1, List.forall_mem_cons.mpr ⟨zd_3_2, List.forall_mem_cons.mpr ⟨zd_3_3, List.forall_mem_cons.mpr ⟨zd_3_4, List.forall_mem_cons.mpr ⟨zd_3_5, List.forall_mem_cons.mpr ⟨zd_3_6, List.forall_mem_cons.mpr ⟨zd_3_7, List.forall_mem_cons.mpr ⟨zd_3_8, List.forall_mem_cons.mpr ⟨zd_3_9, List.forall_mem_cons.mpr ⟨zd_3_10, List.forall_mem_cons.mpr ⟨zd_3_11, List.forall_mem_cons.mpr ⟨zd_3_12, List.forall_mem_cons.mpr ⟨zd_3_13, List.forall_mem_cons.mpr ⟨zd_3_14, List.forall_mem_cons.mpr ⟨zd_3_15, List.forall_mem_cons.mpr ⟨zd_3_16, List.forall_mem_cons.mpr ⟨zd_3_17, List.forall_mem_cons.mpr ⟨zd_3_18, List.forall_mem_cons.mpr ⟨zd_3_19, List.forall_mem_cons.mpr ⟨zd_3_20, List.forall_mem_cons.mpr ⟨zd_3_21, List.forall_mem_cons.mpr ⟨zd_3_22, List.forall_mem_cons.mpr ⟨zd_3_23, List.forall_mem_cons.mpr ⟨zd_3_24, List.forall_mem_cons.mpr ⟨zd_3_25, List.forall_mem_cons.mpr ⟨zd_3_26, List.forall_mem_cons.mpr ⟨zd_3_27, List.forall_mem_cons.mpr ⟨zd_3_28, List.forall_mem_cons.mpr ⟨zd_3_29, List.forall_mem_cons.mpr ⟨zd_3_30, List.forall_mem_cons.mpr ⟨zd_3_31, (fun _ h => nomatch h)⟩⟩⟩⟩⟩⟩⟩⟩⟩⟩⟩⟩⟩⟩⟩⟩⟩⟩⟩⟩⟩⟩⟩⟩⟩⟩⟩⟩⟩⟩⟩⟩
theorem zdc_4 : ∀ q ∈ zmc_4, zkall q.2.1 q.2.2.2.2.2 = true := List.forall_mem_cons.mpr ⟨zd_4_0, List.forall_mem_cons.mpr ⟨zd_4_1, List.forall_mem_cons.mpr ⟨zd_4_2, List.forall_mem_cons.mpr ⟨zd_4_3, List.forall_mem_cons.mpr ⟨zd_4_4, List.forall_mem_cons.mpr ⟨zd_4_5, List.forall_mem_cons.mpr ⟨zd_4_6, List.forall_mem_cons.mpr ⟨zd_4_7, List.forall_mem_cons.mpr ⟨zd_4_8, (fun _ h => nomatch h)⟩⟩⟩⟩⟩⟩⟩⟩⟩
theorem zdc_5 : ∀ q ∈ zmc_5, zkall q.2.1 q.2.2.2.2.2 = true := List.forall_mem_cons.mpr ⟨zd_5_0, List.forall_mem_cons.mpr ⟨zd_5_1, List.forall_mem_cons.mpr ⟨zd_5_2, List.forall_mem_cons.mpr ⟨zd_5_3, List.forall_mem_cons.mpr ⟨zd_5_4, List.forall_mem_cons.mpr ⟨zd_5_5, List.forall_mem_cons.mpr ⟨zd_5_6, List.forall_mem_cons.mpr ⟨zd_5_7, List.forall_mem_cons.mpr ⟨zd_5_8, List.forall_mem_cons.mpr ⟨zd_5_9, List.forall_mem_cons.mpr ⟨zd_5_10, List.forall_mem_cons.mpr ⟨zd_5_11, List.forall_mem_cons.mpr ⟨zd_5_12, (fun _ h => nomatch h)⟩⟩⟩⟩⟩⟩⟩⟩⟩⟩⟩⟩⟩
theorem zdc_6 : ∀ q ∈ zmc_6, zkall q.2.1 q.2.2.2.2.2 = true := List.forall_mem_cons.mpr ⟨zd_6_0, List.forall_mem_cons.mpr ⟨zd_6_1, List.forall_mem_cons.mpr ⟨zd_6_2, List.forall_mem_cons.mpr ⟨zd_6_3, List.forall_mem_cons.mpr ⟨zd_6_4, List.forall_mem_cons.mpr ⟨zd_6_5, List.forall_mem_cons.mpr ⟨zd_6_6, List.forall_mem_cons.mpr ⟨zd_6_7, List.forall_mem_cons.mpr ⟨zd_6_8, List.forall_mem_cons.mpr ⟨zd_6_9, List.forall_mem_cons.mpr ⟨zd_6_10, List.forall_mem_cons.mpr ⟨zd_6_11, (fun _ h => nomatch h)⟩⟩⟩⟩⟩⟩⟩⟩⟩⟩⟩⟩
theorem zdc_7 : ∀ q ∈ zmc_7, zkall q.2.1 q.2.2.2.2.2 = true := List.forall_mem_cons.mpr ⟨zd_7_0, List.forall_mem_cons.mpr ⟨zd_7_1, List.forall_mem_cons.mpr ⟨zd_7_2, List.forall_mem_cons.mpr ⟨zd_7_3, List.forall_mem_cons.mpr ⟨zd_7_4, List.forall_mem_cons.mpr ⟨zd_7_5, (fun _ h => nomatch h)⟩⟩⟩⟩⟩⟩
theorem zdc_8 : ∀ q ∈ zmc_8, zkall q.2.1 q.2.2.2.2.2 = true := List.forall_mem_cons.mpr ⟨zd_8_0, List.forall_mem_cons.mpr ⟨zd_8_1, List.forall_mem_cons.mpr ⟨zd_8_2, List.forall_mem_cons.mpr ⟨zd_8_3, List.forall_mem_cons.mpr ⟨zd_8_4, List.forall_mem_cons.mpr ⟨zd_8_5, List.forall_mem_cons.mpr ⟨zd_8_6, List.forall_mem_cons.mpr ⟨zd_8_7, List.forall_mem_cons.mpr ⟨zd_8_8, List.forall_mem_cons.mpr ⟨zd_8_9, List.forall_mem_cons.mpr ⟨zd_8_10, List.forall_mem_cons.mpr ⟨zd_8_11, List.forall_mem_cons.mpr ⟨zd_8_12, List.forall_mem_cons.mpr ⟨zd_8_13, List.forall_mem_cons.mpr ⟨zd_8_14, List.forall_mem_cons.mpr ⟨zd_8_15, List.forall_mem_cons.mpr ⟨zd_8_16, List.forall_mem_cons.mpr ⟨zd_8_17, List.forall_mem_cons.mpr ⟨zd_8_18, List.forall_mem_cons.mpr ⟨zd_8_19, List.forall_mem_cons.mpr ⟨zd_8_20, List.forall_mem_cons.mpr ⟨zd_8_21, List.forall_mem_cons.mpr ⟨zd_8_22, List.forall_mem_cons.mpr ⟨zd_8_23, List.forall_mem_cons.mpr ⟨zd_8_24, List.forall_mem_cons.mpr ⟨zd_8_25, List.forall_mem_cons.mpr ⟨zd_8_26, List.forall_mem_cons.mpr ⟨zd_8_27, List.forall_mem_cons.mpr ⟨zd_8_28, List.forall_mem_cons.mpr ⟨zd_8_29, List.forall_mem_cons.mpr ⟨zd_8_30, List.forall_mem_cons.mpr ⟨zd_8_31, List.forall_mem_cons.mpr ⟨zd_8_32, List.forall_mem_cons.mpr ⟨zd_8_33, List.forall_mem_cons.mpr ⟨zd_8_34, List.forall_mem_cons.mpr ⟨zd_8_35, List.forall_mem_cons.mpr ⟨zd_8_36, List.forall_mem_cons.mpr ⟨zd_8_37, List.forall_mem_cons.mpr ⟨zd_8_38, List.forall_mem_cons.mpr ⟨zd_8_39, List.forall_mem_cons.mpr ⟨zd_8_40, List.forall_mem_cons.mpr ⟨zd_8_41, (fun _ h => nomatch h)⟩⟩⟩⟩⟩⟩⟩⟩⟩⟩⟩⟩⟩⟩⟩⟩⟩⟩⟩⟩⟩⟩⟩⟩⟩⟩⟩⟩⟩⟩⟩⟩⟩⟩⟩⟩⟩⟩⟩⟩⟩⟩
theorem zdc_9 : ∀ q ∈ zmc_9, zkall q.2.1 q.2.2.2.2.2 = true := List.forall_mem_cons.mpr ⟨zd_9_0, List.forall_mem_cons.mpr ⟨zd_9_1, List.forall_mem_cons.mpr ⟨zd_9_2, List.forall_mem_cons.mpr ⟨zd_9_3, List.forall_mem_cons.mpr ⟨zd_9_4, List.forall_mem_cons.mpr ⟨zd_9_5, List.forall_mem_cons.mpr ⟨zd_9_6, List.forall_mem_cons.mpr ⟨zd_9_7, List.forall_mem_cons.mpr ⟨zd_9_8, List.forall_mem_cons.mpr ⟨zd_9_9, List.forall_mem_cons.mpr ⟨zd_9_10, List.forall_mem_cons.mpr ⟨zd_9_11, List.forall_mem_cons.mpr ⟨zd_9_12, List.forall_mem_cons.mpr ⟨zd_9_13, List.forall_mem_cons.mpr ⟨zd_9_14, List.forall_mem_cons.mpr ⟨zd_9_15, List.forall_mem_cons.mpr ⟨zd_9_16, List.forall_mem_cons.mpr ⟨zd_9_17, List.forall_mem_cons.mpr ⟨zd_9_18, List.forall_mem_cons.mpr ⟨zd_9_19, List.forall_mem_cons.mpr ⟨zd_9_20, List.forall_mem_cons.mpr ⟨zd_9_21, List.forall_mem_cons.mpr ⟨zd_9_22, List.forall_mem_cons.mpr ⟨zd_9_23, List.forall_mem_cons.mpr ⟨zd_9_24, List.forall_mem_cons.mpr ⟨zd_9_25, List.forall_mem_cons.mpr ⟨zd_9_26, List.forall_mem_cons.mpr ⟨zd_9_27, List.forall_mem_cons.mpr ⟨zd_9_28, List.forall_mem_cons.mpr ⟨zd_9_29, List.forall_mem_cons.mpr ⟨zd_9_30, List.forall_mem_cons.mpr ⟨zd_9_31, List.forall_mem_cons.mpr ⟨zd_9_32, List.forall_mem_cons.mpr ⟨zd_9_33, List.forall_mem_cons.mpr ⟨zd_9_34, List.forall_mem_cons.mpr ⟨zd_9_35, List.forall_mem_cons.mpr ⟨zd_9_36, List.forall_mem_cons.mpr ⟨zd_9_37, List.forall_mem_cons.mpr ⟨zd_9_38, List.forall_mem_cons.mpr ⟨zd_9_39, List.forall_mem_cons.mpr ⟨zd_9_40, List.forall_mem_cons.mpr ⟨zd_9_41, List.forall_mem_cons.mpr ⟨zd_9_42, List.forall_mem_cons.mpr ⟨zd_9_43, List.forall_mem_cons.mpr ⟨zd_9_44, List.forall_mem_cons.mpr ⟨zd_9_45, List.forall_mem_cons.mpr ⟨zd_9_46, List.forall_mem_cons.mpr ⟨zd_9_47, List.forall_mem_cons.mpr ⟨zd_9_48, List.forall_mem_cons.mpr ⟨zd_9_49, List.forall_mem_cons.mpr ⟨zd_9_50, List.forall_mem_cons.mpr ⟨zd_9_51, List.forall_mem_cons.mpr ⟨zd_9_52, List.forall_mem_cons.mpr ⟨zd_9_53, List.forall_mem_cons.mpr ⟨zd_9_54, List.forall_mem_cons.mpr ⟨zd_9_55, List.forall_mem_cons.mpr ⟨zd_9_56, List.forall_mem_cons.mpr ⟨zd_9_57, List.forall_mem_cons.mpr ⟨zd_9_58, List.forall_mem_cons.mpr ⟨zd_9_59, List.forall_mem_cons.mpr ⟨zd_9_60, List.forall_mem_cons.mpr ⟨zd_9_61, List.forall_mem_cons.mpr ⟨zd_9_62, List.forall_mem_cons.mpr ⟨zd_9_63, List.forall_mem_cons.mpr ⟨zd_9_64, List.forall_mem_cons.mpr ⟨zd_9_65, List.forall_mem_cons.mpr ⟨zd_9_66, List.forall_mem_cons.mpr ⟨zd_9_67, List.forall_mem_cons.mpr ⟨zd_9_68, List.forall_mem_cons.mpr ⟨zd_9_69, List.forall_mem_cons.mpr ⟨zd_9_70, List.forall_mem_cons.mpr ⟨zd_9_71, List.forall_mem_cons.mpr ⟨zd_9_72, List.forall_mem_cons.mpr ⟨zd_9_73, List.forall_mem_cons.mpr ⟨zd_9_74, List.forall_mem_cons.mpr ⟨zd_9_75, List.forall_mem_cons.mpr ⟨zd_9_76, List.forall_mem_cons.mpr ⟨zd_9_77, List.forall_mem_cons.mpr ⟨zd_9_78, List.forall_mem_cons.mpr ⟨zd_9_79, List.forall_mem_cons.mpr ⟨zd_9_80, List.forall_mem_cons.mpr ⟨zd_9_81, List.forall_mem_cons.mpr ⟨zd_9_82, List.forall_mem_cons.mpr ⟨zd_9_83, List.forall_mem_cons.mpr ⟨zd_9_84, List.forall_mem_cons.mpr ⟨zd_9_85, List.forall_mem_cons.mpr ⟨zd_9_86, List.forall_mem_cons.mpr ⟨zd_9_87, List.forall_mem_cons.mpr ⟨zd_9_88, List.forall_mem_cons.mpr ⟨zd_9_89, List.forall_mem_cons.mpr ⟨zd_9_90, List.forall_mem_cons.mpr ⟨zd_9_91, List.forall_mem_cons.mpr ⟨zd_9_92, List.forall_mem_cons.mpr ⟨zd_9_93, List.forall_mem_cons.mpr ⟨zd_9_94, List.forall_mem_cons.mpr ⟨zd_9_95, List.forall_mem_cons.mpr ⟨zd_9_96, List.forall_mem_cons.mpr ⟨zd_9_97, List.forall_mem_cons.mpr ⟨zd_9_98, List.forall_mem_cons.mpr ⟨zd_9_99, List.forall_mem_cons.mpr ⟨zd_9_100, List.forall_mem_cons.mpr ⟨zd_9_101, List.forall_mem_cons.mpr ⟨zd_9_102, List.forall_mem_cons.mpr ⟨zd_9_103, List.forall_mem_cons.mpr ⟨zd_9_104, List.forall_mem_cons.mpr ⟨zd_9_105, List.forall_mem_cons.mpr ⟨zd_9_106, List.forall_mem_cons.mpr ⟨zd_9_107, List.forall_mem_cons.mpr ⟨zd_9_108, List.forall_mem_cons.mpr ⟨zd_9_109, List.forall_mem_cons.mpr ⟨zd_9_110, List.forall_mem_cons.mpr ⟨zd_9_111, (fun _ h => nomatch h)⟩⟩⟩⟩⟩⟩⟩⟩⟩⟩⟩⟩⟩⟩⟩⟩⟩⟩⟩⟩⟩⟩⟩⟩⟩⟩⟩⟩⟩⟩⟩⟩⟩⟩⟩⟩⟩⟩⟩⟩⟩⟩⟩⟩⟩⟩⟩⟩⟩⟩⟩⟩⟩⟩⟩⟩⟩⟩⟩⟩⟩⟩⟩⟩⟩⟩⟩⟩⟩⟩⟩⟩⟩⟩⟩⟩⟩⟩⟩⟩⟩⟩⟩⟩⟩⟩⟩⟩⟩⟩⟩⟩⟩⟩⟩⟩⟩⟩⟩⟩⟩⟩⟩⟩⟩⟩⟩⟩⟩⟩⟩⟩
theorem zdc_10 : ∀ q ∈ zmc_10, zkall q.2.1 q.2.2.2.2.2 = true := List.forall_mem_cons.mpr ⟨zd_10_0, List.forall_mem_cons.mpr ⟨zd_10_1, List.forall_mem_cons.mpr ⟨zd_10_2, List.forall_mem_cons.mpr ⟨zd_10_3, List.forall_mem_cons.mpr ⟨zd_10_4, List.forall_mem_cons.mpr ⟨zd_10_5, List.forall_mem_cons.mpr ⟨zd_10_6, List.forall_mem_cons.mpr ⟨zd_10_7, List.forall_mem_cons.mpr ⟨zd_10_8, List.forall_mem_cons.mpr ⟨zd_10_9, List.forall_mem_cons.mpr ⟨zd_10_10, List.forall_mem_cons.mpr ⟨zd_10_11, List.forall_mem_cons.mpr ⟨zd_10_12, List.forall_mem_cons.mpr ⟨zd_10_13, List.forall_mem_cons.mpr ⟨zd_10_14, List.forall_mem_cons.mpr ⟨zd_10_15, List.forall_mem_cons.mpr ⟨zd_10_16, List.forall_mem_cons.mpr ⟨zd_10_17, List.forall_mem_cons.mpr ⟨zd_10_18, List.forall_mem_cons.mpr ⟨zd_10_19, List.forall_mem_cons.mpr ⟨zd_10_20, List.forall_mem_cons.mpr ⟨zd_10_21, List.forall_mem_cons.mpr ⟨zd_10_22, List.forall_mem_cons.mpr ⟨zd_10_23, List.forall_mem_cons.mpr ⟨zd_10_24, (fun _ h => nomatch h)⟩⟩⟩⟩⟩⟩⟩⟩⟩⟩⟩⟩⟩⟩⟩⟩⟩⟩⟩⟩⟩⟩⟩⟩⟩
theorem zdc_11 : ∀ q ∈ zmc_11, zkall q.2.1 q.2.2.2.2.2 = true := List.forall_mem_cons.mpr ⟨zd_11_0, (fun _ h => nomatch h)⟩
theorem zdc_12 : ∀ q ∈ zmc_12, zkall q.2.1 q.2.2.2.2.2 = true := List.forall_mem_cons.mpr ⟨zd_12_0, List.forall_mem_cons.mpr ⟨zd_12_1, List.forall_mem_cons.mpr ⟨zd_12_2, (fun _ h => nomatch h)⟩⟩⟩
end
section
theorem zfe_ok {j pc : Nat} {i : Instr} {len : Nat} {q : zMt} (h : zfe j pc = some (i, len)) (hq : zent j = some q) : decode q.2.1 pc = .ok (i, len) ∧ (zsw i = true ∨ zlen i = len) := by
  have hall : ∀ c, c < 13 → ∀ q ∈ zmc c, zkall q.2.1 q.2.2.2.2.2 = true := by
    intro c hc
    match c, hc with
    | 0, _ => exact zdc_0
    | 1, _ => exact zdc_1
    | 2, _ => exact zdc_2
    | 3, _ => exact zdc_3
    | 4, _ => exact zdc_4
    | 5, _ => exact zdc_5
    | 6, _ => exact zdc_6
    | 7, _ => exact zdc_7
    | 8, _ => exact zdc_8
    | 9, _ => exact zdc_9
    | 10, _ => exact zdc_10
    | 11, _ => exact zdc_11
    | 12, _ => exact zdc_12
    | k + 13, h => exact absurd h (by omega)
  unfold zfe at h
  rw [hq] at h
  have h1 := hall (j / 200) (zent_lt hq) q (List.mem_of_getElem? hq)
  have h2 := List.all_eq_true.mp h1 _ (zlk_of (β := Unit) h)
  simp only [Bool.and_eq_true, decide_eq_true_eq, Bool.or_eq_true, beq_iff_eq] at h2
  exact h2
theorem zDs_tab : ∀ w ∈ zDs, w.onTables = true := by decide +kernel
section ZX
variable {p : Program} {l : Launch} {e : Env} {R : Room} {s : State} {m : MethodId} {args : Array Value} {below : List Frame} {meth : Method} {c : Code} {H : Heap} {locs : List Loc} {cells slots : Nat} {G : zG} {cc : ByteArray} {ls : Array Slot} {pc : Nat} {σ : Nat → Nat × (Nat → Int32)} {cn : Nat} {st : List Value} {M : zMem} {mc ms : Nat}
theorem zF_of {t : State} (hS : va_S (zA G) s.heap H locs) (ht : t.heap = H) : va_F (zA G) s t := ⟨by rw [ht]; exact hS.1, fun q h1 h2 => by rw [ht]; exact hS.2.1 q h1 h2⟩
theorem zret_ok {j : Nat} {q : zMt} {i : Instr} {len : Nat} {v : Option Value} {XC : String → State → State → Prop} (B : zBd p s m args c cc cn G σ) (hq : zent j = some q) (hr : meth.sig.returnType = q.2.2.2.1) (hlocks : meth.locks = false) (hd : decode cc pc = .ok (i, len)) (hlen : zsw i = true ∨ zlen i = len) (hret : zret j i st = some v) (hR : zRel G M H) (hS : va_S (zA G) s.heap H locs) (hc : cells ≤ mc) (hs : slots ≤ ms) :
    W p l e R s m args below meth c H locs cells slots (vx_MQ below (zQc G (.inl v) M) XC args s mc ms (zA G)) (F0 m pc ls (st.map (zcv G))) := by
  obtain ⟨hx, hb, -⟩ := B
  refine W.widen (k := mc) (n := ms) hc hs (vx_ret ?_)
  unfold zret at hret
  rw [hq] at hret
  dsimp only at hret
  cases i
  case ireturn =>
    obtain rfl := zlk hlen rfl
    dsimp only at hret
    split at hret
    · rename_i x
      split at hret
      · rename_i hty
        cases hret
        exact W.iret hx hb (hr.trans hty) (fun t ht _ => ⟨rfl, by rw [ht]; exact hR, zF_of hS ht⟩) hS.2.2 hd hlocks
      · rename_i hty
        split at hret
        · rename_i h01
          cases hret
          exact W.zret hx hb (hr.trans hty) (zbool_ok h01).1 (fun t ht _ => ⟨rfl, by rw [ht]; exact hR, zF_of hS ht⟩) hS.2.2 hd hlocks
        · cases hret
      · cases hret
    · cases hret
  case areturn =>
    obtain rfl := zlk hlen rfl
    dsimp only at hret
    split at hret
    · rename_i a
      split at hret
      · rename_i n hty
        cases hret
        exact W.aret hx hb (hr.trans hty) (Or.inl ⟨_, rfl⟩) (Or.inr ⟨_, rfl⟩) (fun t ht _ => ⟨rfl, by rw [ht]; exact hR, zF_of hS ht⟩) hS.2.2 hd hlocks
      · cases hret
    · cases hret
  case return_ =>
    obtain rfl := zlk hlen rfl
    dsimp only at hret
    split at hret
    · split at hret
      · rename_i hty
        cases hret
        exact W.vret hx hb (hr.trans hty) (fun t ht _ => ⟨rfl, by rw [ht]; exact hR, zF_of hS ht⟩) hS.2.2 hd hlocks
      · cases hret
    · cases hret
  all_goals cases hret
theorem zw_thM : zw G (zthM M) = zw G M := rfl
theorem zrel_grow {H1 : Heap} (hR : zRel G M H) (ho : ∀ q : Nat, q < H.size → H1[q]? = H[q]?) : zRel G (zthM M) H1 := ⟨hR.1.kept (fun k x hx => ho x.1 ((hR.1 k x hx).lt)), hR.2⟩
theorem zthr_ok {j e0 : Nat} {q : zMt} {Qc : Array Value → State → Outcome → State → Prop} (hl : l.stackTraces = false) (B : zBd p s m args c q.2.1 (j / 200) G σ) (hq : zent j = some q) (hNC : zNC s) (hlocks : meth.locks = false) (hls : ls.size = c.maxLocals) (hno : ∀ x ∈ c.exceptionTable.toList, False) (ht : zthr j pc = some e0) (hsum : zsum st ≤ 8) (hR : zRel G M H) (hS : va_S (zA G) s.heap H locs) (hRf : 8 ≤ R.frames) (hRl : 200 ≤ R.locals) (hRc : cells + 1 ≤ R.cells) (hRs : slots + 6 ≤ R.slots) (hc : cells + 1 ≤ mc) (hs : slots + 6 ≤ ms) :
    W p l e R s m args below meth c H locs cells slots (vx_MQ below Qc (zXc G (.inr e0) (zthM M)) args s mc ms (zA G)) (F0 m pc ls (st.map (zcv G))) := by
  obtain ⟨hx, hb, hown, hts, hK, hbs, hE⟩ := B
  unfold zthr at ht
  cases hf : zth.find? (fun t => t.1 == j && t.2.1 == pc) with
  | none => rw [hf] at ht; cases ht
  | some t =>
    rw [hf] at ht
    have ht : t.2.2.1 = e0 := Option.some.inj ht
    have hm := List.mem_of_find?_eq_some hf
    have hp := List.find?_some hf
    simp only [Bool.and_eq_true, beq_iff_eq] at hp
    obtain ⟨t1, t2, t3, ik, is, ic, w, ns⟩ := t
    obtain ⟨rfl, rfl⟩ := hp
    dsimp only at ht
    subst ht
    have hk := zthc_ok _ hm
    unfold zthc at hk
    simp only [Bool.and_eq_true, Bool.or_eq_true, beq_iff_eq, decide_eq_true_eq] at hk
    obtain ⟨⟨⟨⟨⟨c1, c2⟩, c3⟩, c4⟩, c5⟩, c6⟩ := hk
    have hown8 : s.vm.findClass RX8 = some m.cls := by rw [c1] at hown; exact hown
    have hX : ∀ t : State, s.vm.Alike t.vm → H.size ≤ t.heap.size → (∀ q : Nat, q < H.size → t.heap[q]? = H[q]?) → zXc G (.inr t3) (zthM M) (zex t3) s t := fun t _ h1 h2 => ⟨rfl, zrel_grow hR h2, Nat.le_trans hS.1 h1, fun q g1 g2 => (h2 q (Nat.lt_of_lt_of_le g1 hS.1)).trans (hS.2.1 q g1 g2)⟩
    have hsm : ((st.map (zcv G)).map fun v => v.category).sum + (13 * (znm.length + 1) + 43) ≤ R.locals := by
      rw [zsum_map]
      show _ + (13 * (2 + 1) + 43) ≤ _
      omega
    cases hz : zstr[ns]? with
    | none => rw [hz] at c5; cases c5
    | some zq =>
      rw [hz] at c5
      simp only [Bool.and_eq_true, beq_iff_eq] at c5
      have hstr := hE.2.2.1 ns zq hz
      rw [c5.1, c5.2] at hstr
      by_cases hE1 : zthE t3 ik ic = true
      · obtain ⟨w1, w2, w3, w4, w5⟩ := zth_words hE1
        have hat : ∀ w ∈ vx_atS RX8 ic (zex t3) znm, w.before args s = true := fun w hw => (w1 w hw).elim (fun h => hts w h) (fun h => (List.mem_append.mp h).elim (fun h => va_Nw.use (zNs_tab w h) (hE.2.2.2.1 w h)) (fun h => va_Nw.use (zDs_tab w h) (hNC.2 w h)))
        match w, c6 with
        | 0, c6 =>
          simp only [Bool.and_eq_true, decide_eq_true_eq] at c6
          exact vx_throwS hx hb hl (names := znm) hown8 w5 znm_fit (hts _ w3) (hts _ w4) hstr hat w2 hE.1 hE.2.1 hS hls (zfe_ok c3 hq).1 (zfe_ok c4 hq).1 (zfe_ok c6.1.1 hq).1 (zfe_ok c6.1.2 hq).1 (zfe_ok c6.2 hq).1 (fun x hx => absurd hx (fun h => hno x h)) (by show 2 + 3 < _; omega) hsm hRc hRs hlocks hX hS.2.2 hc hs
        | w + 1, c6 =>
          simp only [Bool.and_eq_true, decide_eq_true_eq] at c6
          exact vx_throwSW hx hb hl (names := znm) hown8 w5 znm_fit (hts _ w3) (hts _ w4) hstr hat w2 hE.1 hE.2.1 hS hls (zfe_ok c3 hq).1 (zfe_ok c4 hq).1 (zfe_ok c6.1.1 hq).1 (zfe_ok c6.1.2 hq).1 (zfe_ok c6.2 hq).1 (fun x hx => absurd hx (fun h => hno x h)) (by show 2 + 3 < _; omega) hsm hRc hRs hlocks hX hS.2.2 hc hs
      · have hN1 : t3 = 1 ∧ ik = 131 ∧ ic = 135 := by
          rcases c2 with h | h
          · exact absurd h hE1
          · exact ⟨h.1.1, h.1.2, h.2⟩
        obtain ⟨rfl, rfl, rfl⟩ := hN1
        have hat : ∀ w ∈ zNA, w.before args s = true := fun w hw => (zNall w hw).elim (fun h => hts w h) (fun h => (List.mem_append.mp h).elim (fun h => va_Nw.use (zNs_tab w h) (hE.2.2.2.1 w h)) (fun h => va_Nw.use (zDs_tab w h) (hNC.2 w h)))
        have hg : ∀ w ∈ Cond.classLink RX8 131 "java/util/NoSuchElementException" :: Cond.initialized "java/util/NoSuchElementException" :: zNA, vx_ot w = true := fun w hw => List.all_eq_true.mp zNg w hw
        have hk1 : (Cond.classLink RX8 131 "java/util/NoSuchElementException").before args s = true := hts _ (List.mem_filter.mpr ⟨zNk2.1, rfl⟩)
        have hk2 : (Cond.initialized "java/util/NoSuchElementException").before args s = true := hts _ (List.mem_filter.mpr ⟨zNk2.2.1, rfl⟩)
        have hfin : ∀ (pc9 : Nat) (q9 : Nat) (H1 : Heap) (ce : Cell), zfe t1 pc9 = some (.athrow, 1) → H1[q9]? = some ce → ce.vm = .none → s.vm.findClass "java/util/NoSuchElementException" = some ce.cls → H.size ≤ H1.size → (∀ x : Nat, x < H.size → H1[x]? = H[x]?) → va_S (zA G) s.heap H1 locs → W p l e R s m args below meth c H1 locs (cells + 1) (slots + 6) (vx_MQ below Qc (zXc G (.inr 1) (zthM M)) args s mc ms (zA G)) (F0 m pc9 ls (.ref q9 :: st.map (zcv G))) := by
          intro pc9 q9 H1 ce d9 g1 g2 g3 g4 g5 g6
          exact vx_athrow hx hb (zfe_ok d9 hq).1 (vx_out (fun x hx => absurd hx (fun h => hno x h)) hlocks g1 g2 g3 (fun t ht ha => hX t ha (by rw [ht]; exact g4) (fun q h => by rw [ht]; exact g5 q h)) g6.2.2 hc hs)
        match w, c6 with
        | 0, c6 =>
          simp only [Bool.and_eq_true, decide_eq_true_eq] at c6
          exact zmakeX hx hb hl zNx0 zNx1 zNx2 zNx5 hown8 zNk2.2.2 znm_fit hk1 hk2 hstr hat hg hE.1 hE.2.1 hS hls (zfe_ok c3 hq).1 (zfe_ok c4 hq).1 (zfe_ok c6.1.1 hq).1 (zfe_ok c6.1.2 hq).1 (by show 2 + 3 < _; omega) hsm hRc hRs (fun q9 H1 ce => hfin (t2 + 9) q9 H1 ce c6.2)
        | w + 1, c6 =>
          simp only [Bool.and_eq_true, decide_eq_true_eq] at c6
          exact zmakeXW hx hb hl zNx0 zNx1 zNx2 zNx5 hown8 zNk2.2.2 znm_fit hk1 hk2 hstr hat hg hE.1 hE.2.1 hS hls (zfe_ok c3 hq).1 (zfe_ok c4 hq).1 (zfe_ok c6.1.1 hq).1 (zfe_ok c6.1.2 hq).1 (by show 2 + 3 < _; omega) hsm hRc hRs (fun q9 H1 ce => hfin (t2 + 10) q9 H1 ce c6.2)
end ZX
end
section
/-! what is caught in the law's own small methods -/
def zhdc (t : Nat × Nat × Nat × Nat × Nat × Nat × Nat × Nat) : Bool := match zent t.1 with
  | some q => (t.1 / 200 == 10) && Nat.blt t.2.2.1 5 && decide (q.2.2.2.1 = some .int) && Nat.blt t.2.2.2.2.2.2.2 q.2.2.1 && decide (Cond.castable (zex t.2.2.1) (zex t.2.2.1) ∈ zNs) &&
    (match t.2.2.2.2.1, q.2.2.2.2.1 with
    | 0, (a, b, h, ct) :: _ => Nat.ble a t.2.1 && Nat.blt t.2.1 b && h == t.2.2.2.2.2.1 && ct != 0 && decide (Cond.classLink RL ct (zex t.2.2.1) ∈ lw_tbl)
    | 1, (_, _, _, ct0) :: (a, b, h, ct) :: _ => Nat.ble a t.2.1 && Nat.blt t.2.1 b && h == t.2.2.2.2.2.1 && ct != 0 && decide (Cond.classLink RL ct (zex t.2.2.1) ∈ lw_tbl) && ct0 != 0 && (List.range 5).any (fun e => e != t.2.2.1 && decide (Cond.classLink RL ct0 (zex e) ∈ lw_tbl))
    | _, _ => false) &&
    (match t.2.2.2.2.2.2.1 with
    | 0 => decide (zfe t.1 t.2.2.2.2.2.1 = some (.astore t.2.2.2.2.2.2.2, 2)) && decide (zfe t.1 (t.2.2.2.2.2.1 + 2) = some (.iconst t.2.2.2.1, 1)) && decide (zfe t.1 (t.2.2.2.2.2.1 + 3) = some (.ireturn, 1))
    | _ => match zfe t.1 t.2.2.2.2.2.1 with
      | some (.astore_n k, 1) => k.val == t.2.2.2.2.2.2.2 && decide (zfe t.1 (t.2.2.2.2.2.1 + 1) = some (.iconst t.2.2.2.1, 1)) && decide (zfe t.1 (t.2.2.2.2.2.1 + 2) = some (.ireturn, 1))
      | _ => false)
  | none => false
theorem zhdc_ok : ∀ t ∈ zhd, zhdc t = true := List.all_eq_true.mp (show zhd.all zhdc = true by decide +kernel)
def zmpl (c : Nat) (e : Nat × Nat × Nat × Nat) : Bool := match e.2.1 with
  | 0 | 2 | 3 => match zent e.2.2.1 with
    | some q => Nat.ble (zna e.2.2.1 + 1) q.2.2.1
    | none => false
  | 1 => match zent e.2.2.1 with
    | some q => Nat.ble (zna e.2.2.1) q.2.2.1
    | none => false
  | _ => true
theorem zmpl_all : (List.range 13).all (fun c => (zmp c).all (zmpl c)) = true := by decide +kernel
theorem zmpl_ok {c : Nat} {e : Nat × Nat × Nat × Nat} (h : e ∈ zmp c) : zmpl c e = true := by
  have hc : c < 13 := by
    apply Nat.lt_of_not_le
    intro hc
    rw [zmp_ge hc] at h
    cases h
  exact List.all_eq_true.mp (List.all_eq_true.mp zmpl_all c (List.mem_range.mpr hc)) e h
theorem zcall_len {cn : Nat} {i : Instr} {st : List Value} {M : zMem} {j' : Nat} {as rest : List Value} (hcall : zcall cn i st M = some (j', as, rest)) {q : zMt} (hq : zent j' = some q) : as.length ≤ q.2.2.1 := by
  unfold zcall at hcall
  cases i
  case invokevirtual idx =>
    dsimp only at hcall
    split at hcall
    · rename_i j pl hl
      split at hcall
      · rename_i j2 b as2 r2 hsp
        obtain ⟨rfl, hst, hlen2, hsum, hcat⟩ := zsp_ok hsp
        split at hcall
        · rw [cond_eq_ite] at hcall
          split at hcall
          · cases hcall
            have h1 := zmpl_ok (zlk_of (β := Unit) hl)
            simp only [zmpl, hq] at h1
            rw [hlen2]; exact zble h1
          · cases hcall
        · cases hcall
      · cases hcall
    · cases hcall
  case invokestatic idx =>
    dsimp only at hcall
    split at hcall
    · rename_i j pl hl
      rw [cond_eq_ite] at hcall
      split at hcall
      · obtain ⟨rfl, hst, hlen2, hsum, hcat⟩ := zsp_ok hcall
        have h1 := zmpl_ok (zlk_of (β := Unit) hl)
        simp only [zmpl, hq] at h1
        rw [hlen2]; exact zble h1
      · cases hcall
    · cases hcall
  case invokespecial idx =>
    dsimp only at hcall
    split at hcall
    · rename_i j pl hl
      split at hcall
      · rename_i j2 b as2 r2 hsp
        obtain ⟨rfl, hst, hlen2, hsum, hcat⟩ := zsp_ok hsp
        cases hcall
        have h1 := zmpl_ok (zlk_of (β := Unit) hl)
        simp only [zmpl, hq] at h1
        rw [hlen2]; exact zble h1
      · cases hcall
    · rename_i j pl hl
      split at hcall
      · rename_i j2 b as2 r2 hsp
        obtain ⟨rfl, hst, hlen2, hsum, hcat⟩ := zsp_ok hsp
        cases hcall
        have h1 := zmpl_ok (zlk_of (β := Unit) hl)
        simp only [zmpl, hq] at h1
        rw [hlen2]; exact zble h1
      · cases hcall
    · cases hcall
  all_goals cases hcall
theorem zofI (a : Nat) : Int32.ofInt (a : Int) = Int32.ofNat a := by first | rfl | exact Int32.ofInt_natCast a | simp
section ZY
variable {p : Program} {l : Launch} {e : Env} {R : Room} {s : State} {m : MethodId} {args : Array Value} {below : List Frame} {meth : Method} {c : Code} {H : Heap} {locs : List Loc} {cells slots : Nat} {G : zG} {ls : Array Slot} {pc : Nat} {σ : Nat → Nat × (Nat → Int32)} {M : zMem} {mc ms : Nat}
theorem zcatch {j e0 a : Nat} {q : zMt} {XC : String → State → State → Prop} {rest : List Value} {lw : List (Nat × Value)} {q9 : Addr} {ce : Cell} (hh : zhnd j pc e0 = some a) (hq : zent j = some q) (B : zBd p s m args c q.2.1 (j / 200) G σ) (hNC : zNC s) (hr : meth.sig.returnType = q.2.2.2.1) (hlocks : meth.locks = false) (htab : c.exceptionTable.toList = tableOf q.2.2.2.2.1) (hlv : lv_has ls q.2.2.1 lw) (hR : zRel G M H) (hS : va_S (zA G) s.heap H locs) (hc : cells ≤ mc) (hs : slots ≤ ms)
    (hcell : H[q9]? = some ce) (hv : ce.vm = .none) (hcl : s.vm.findClass (zex e0) = some ce.cls) :
    vx_W p l e R s m args below meth c H locs cells slots (vx_MQ below (zQc G (.inl (some (.int (Int32.ofNat a)))) M) XC args s mc ms (zA G)) (F0 m pc ls rest) q9 := by
  obtain ⟨hx, hb, hown, hts, hK, hbs, hE⟩ := B
  unfold zhnd at hh
  cases hf : zhd.find? (fun t => t.1 == j && t.2.1 == pc && t.2.2.1 == e0) with
  | none => rw [hf] at hh; cases hh
  | some t =>
    rw [hf] at hh
    have hh : t.2.2.2.1 = a := Option.some.inj hh
    have hm := List.mem_of_find?_eq_some hf
    have hp := List.find?_some hf
    simp only [Bool.and_eq_true, beq_iff_eq] at hp
    obtain ⟨t1, t2, t3, t4, n, h, w, k⟩ := t
    obtain ⟨⟨rfl, rfl⟩, rfl⟩ := hp
    dsimp only at hh
    subst hh
    have hk := zhdc_ok _ hm
    unfold zhdc at hk
    simp only [hq, Bool.and_eq_true, beq_iff_eq, decide_eq_true_eq] at hk
    obtain ⟨⟨⟨⟨⟨⟨c1, c2⟩, c3⟩, c4⟩, c5⟩, c6⟩, c7⟩ := hk
    have hown10 : s.vm.findClass RL = some m.cls := by rw [c1] at hown; exact hown
    have hcast : (Cond.castable (zex t3) (zex t3)).before args s = true := va_Nw.use rfl (hE.2.2.2.1 _ c5)
    have hend : ∀ ls' : Array Slot, ∀ pc1 : Nat, zfe t1 pc1 = some (.iconst t4, 1) → zfe t1 (pc1 + 1) = some (.ireturn, 1) → W p l e R s m args below meth c H locs cells slots (vx_MQ below (zQc G (.inl (some (.int (Int32.ofNat t4)))) M) XC args s mc ms (zA G)) (F0 m pc1 ls' []) := by
      intro ls' pc1 d1 d2
      refine lv_iconst (v := Int32.ofNat t4) hx hb (zfe_ok d1 hq).1 (zofI t4) ?_
      refine W.widen (k := mc) (n := ms) hc hs (vx_ret ?_)
      exact W.iret hx hb (hr.trans c3) (fun t ht _ => ⟨rfl, by rw [ht]; exact hR, zF_of hS ht⟩) hS.2.2 (zfe_ok d2 hq).1 hlocks
    have hkk : W p l e R s m args below meth c H locs cells slots (vx_MQ below (zQc G (.inl (some (.int (Int32.ofNat t4)))) M) XC args s mc ms (zA G)) (F0 m h ls [.ref q9]) := by
      match w, c7 with
      | 0, c7 =>
        simp only [Bool.and_eq_true, decide_eq_true_eq] at c7
        exact lv_astore hx hb (zfe_ok c7.1.1 hq).1 hlv (zblt c4) rfl (fun ls' _ => hend ls' (h + 2) c7.1.2 c7.2)
      | w + 1, c7 =>
        split at c7
        · rename_i hz
          exact absurd hz (Nat.succ_ne_zero _)
        · split at c7
          · rename_i kf hzf
            simp only [Bool.and_eq_true, beq_iff_eq, decide_eq_true_eq] at c7
            exact lv_astore_n hx hb (zfe_ok hzf hq).1 c7.1.1 hlv (zblt c4) rfl (fun ls' _ => hend ls' (h + 1) c7.1.2 c7.2)
          · cases c7
    match n, hhh : q.2.2.2.2.1, c6 with
    | 0, (a, b, h2, ct) :: tl, c6 =>
      simp only [Bool.and_eq_true, beq_iff_eq, decide_eq_true_eq, bne_iff_ne] at c6
      obtain ⟨⟨⟨⟨g1, g2⟩, g3⟩, g4⟩, g5⟩ := c6
      subst g3
      exact vx_catch (own := RL) (name := zex t3) hown10 [] ⟨a, b, h2, ct⟩ (tableOf tl) (by rw [htab, hhh]; rfl) (fun z hz => nomatch hz) (by show (decide (a ≤ t2) && decide (t2 < b)) = true; rw [decide_eq_true (zble g1), decide_eq_true (zblt g2)]; rfl) g4 (hts _ (List.mem_filter.mpr ⟨g5, rfl⟩)) hcast hcell hv hcl hkk
    | 1, (a0, b0, h0, ct0) :: (a, b, h2, ct) :: tl, c6 =>
      simp only [Bool.and_eq_true, beq_iff_eq, decide_eq_true_eq, bne_iff_ne, List.any_eq_true] at c6
      obtain ⟨⟨⟨⟨⟨⟨g1, g2⟩, g3⟩, g4⟩, g5⟩, g6⟩, e1, g7, g8, g9⟩ := c6
      subst g3
      exact vx_catch (own := RL) (name := zex t3) hown10 [⟨a0, b0, h0, ct0⟩] ⟨a, b, h2, ct⟩ (tableOf tl) (by rw [htab, hhh]; rfl) (fun z hz => by
          cases List.mem_singleton.mp hz
          exact Or.inr ⟨g6, zex e1, hts _ (List.mem_filter.mpr ⟨g9, rfl⟩), hNC.1 t3 e1 (zblt c2) (List.mem_range.mp g7) (fun h => g8 h.symm)⟩) (by show (decide (a ≤ t2) && decide (t2 < b)) = true; rw [decide_eq_true (zble g1), decide_eq_true (zblt g2)]; rfl) g4 (hts _ (List.mem_filter.mpr ⟨g5, rfl⟩)) hcast hcell hv hcl hkk
end ZY
end
section
section ZZ
variable {l : Launch} {G : zG} {σ : Nat → Nat × (Nat → Int32)}
/-- a run of the small machine from any place of a body is one of the machine -/
def zPn (l : Launch) (G : zG) (σ : Nat → Nat × (Nat → Int32)) (n : Nat) : Prop := ∀ (d j pc : Nat) (lv : zLv) (st : List Value) (M : zMem) (o : zO) (M' : zMem), zrun σ n d j pc lv st M = some (o, M') →
  ∀ (p : Program) (e : Env) (R : Room) (s : State) (m : MethodId) (args : Array Value) (below : List Frame) (meth : Method) (c : Code) (H : Heap) (locs : List Loc) (cells slots : Nat) (ls : Array Slot) (Q : State → Prop) (q : zMt), zent j = some q → zBd p s m args c q.2.1 (j / 200) G σ → zNC s → c.maxLocals = q.2.2.1 → meth.sig.returnType = q.2.2.2.1 → meth.locks = false → (zini j = true → meth.name = "<init>") → d + 8 ≤ R.frames → 40 * d + 200 ≤ R.locals → lv_has ls q.2.2.1 (zlv G lv) → lv.length = q.2.2.1 → zRel G M H → va_S (zA G) s.heap H locs → (M.2.2.2.1 = true → s.heap.size + cells ≤ G.2.2.1 + M.1.length) → cells + M'.2.2.2.2.1 ≤ R.cells + M.2.2.2.2.1 → slots + M'.2.2.2.2.2 ≤ R.slots + M.2.2.2.2.2 →
    ((Q = vx_MQ below (zQc G o M') (zXc G o M') args s R.cells R.slots (zA G) ∧ c.exceptionTable.toList = tableOf q.2.2.2.2.1) ∨ ((∃ v, o = .inl v) ∧ ∀ pc e0, zhnd j pc e0 = none)) →
    (∀ (v : Option Value), o = .inl v → ∀ (pc' : Nat) (i : Instr) (len : Nat) (st' : List Value) (H' : Heap) (locs' : List Loc) (cells' slots' : Nat) (ls' : Array Slot), zfe j pc' = some (i, len) → zret j i st' = some v → zRel G M' H' → va_S (zA G) s.heap H' locs' → cells' ≤ R.cells → slots' ≤ R.slots → W p l e R s m args below meth c H' locs' cells' slots' Q (F0 m pc' ls' (st'.map (zcv G)))) →
    W p l e R s m args below meth c H locs cells slots Q (F0 m pc ls (st.map (zcv G)))
theorem zlv_args {as : List Value} (hcat : ∀ v ∈ as, v.category = 1) : ∀ (k j : Nat) (v : Value), as[j]? = some v → (k + j, zcv G v) ∈ lv_args k (as.map (zcv G)) := by
  induction as with
  | nil => intro k j v h; simp at h
  | cons a t ih =>
    intro k j v h
    cases j with
    | zero =>
      cases h
      exact List.mem_cons_self
    | succ j =>
      have h1 : t[j]? = some v := h
      have h2 := ih (fun v hv => hcat v (List.mem_cons_of_mem _ hv)) (k + 1) j v h1
      have hc : (zcv G a).category = 1 := by rw [zcv_cat]; exact hcat a List.mem_cons_self
      show (k + (j + 1), zcv G v) ∈ (k, zcv G a) :: lv_args (if (zcv G a).category = 2 then k + 2 else k + 1) (t.map (zcv G))
      rw [if_neg (by rw [hc]; decide), show k + (j + 1) = k + 1 + j by omega]
      exact List.mem_cons_of_mem _ h2
theorem zlg_len {as : List Value} (hcat : ∀ v ∈ as, v.category = 1) : (lg_sl (as.map (zcv G))).length = as.length := by
  induction as with
  | nil => rfl
  | cons a t ih =>
    have hc : (zcv G a).category = 1 := by rw [zcv_cat]; exact hcat a List.mem_cons_self
    have h2 := ih (fun v hv => hcat v (List.mem_cons_of_mem _ hv))
    unfold lg_sl at h2 ⊢
    rw [List.map_cons, List.flatMap_cons, if_neg (by rw [hc]; decide), List.length_append, h2]
    simp; omega
theorem zentry {j : Nat} {q : zMt} {as : List Value} (hq : zent j = some q) (hcat : ∀ v ∈ as, v.category = 1) (hlen : as.length ≤ q.2.2.1) (m : MethodId) : ∃ ls : Array Slot, entryFrame m (as.map (zcv G)).toArray q.2.2.1 = F0 m 0 ls [] ∧ lv_has ls q.2.2.1 (zlv G (zarg j as)) ∧ (zarg j as).length = q.2.2.1 := by
  refine ⟨_, lg_entry_eq m (as.map (zcv G)) q.2.2.1, ?_, ?_⟩
  · have hl := lv_entry (as.map (zcv G)) (n := q.2.2.1) (by rw [zlg_len hcat]; exact hlen)
    refine ⟨hl.1, hl.2.1, fun x hx => hl.2.2 x ?_⟩
    obtain ⟨k, w⟩ := x
    obtain ⟨v, h1, h2, rfl⟩ := zlv_mem.mp hx
    have h3 : (as.map some ++ List.replicate (q.2.2.1 - as.length) none)[k]? = some (some v) := by
      have : zarg j as = as.map some ++ List.replicate (q.2.2.1 - as.length) none := by unfold zarg; rw [hq]
      rw [← this]; exact h1
    have h4 : as[k]? = some v := by
      by_cases hk : k < as.length
      · rw [List.getElem?_append_left (by simp; exact hk), List.getElem?_map] at h3
        cases h5 : as[k]? with
        | none => rw [h5] at h3; cases h3
        | some x => rw [h5] at h3; cases h3; rfl
      · rw [List.getElem?_append_right (by simp; omega), List.getElem?_replicate] at h3
        split at h3 <;> cases h3
    have h5 := zlv_args (G := G) hcat 0 k v h4
    rw [Nat.zero_add] at h5
    exact h5
  · unfold zarg
    rw [hq]
    simp
    omega
theorem zmet {n : Nat} (hP : zPn l G σ n) {d j : Nat} {as : List Value} {M M' : zMem} {o : zO} {q : zMt} (hrun : zrun σ n d j 0 (zarg j as) [] M = some (o, M')) (hq : zent j = some q) (hj : j ≠ 2024) (hj2 : j < 2400) (hcat : ∀ v ∈ as, v.category = 1) (hlen : as.length ≤ q.2.2.1) :
    vx_Met l q.1 (zcw q :: zWs) (zrm d (M'.2.2.2.2.1 - M.2.2.2.2.1) (M'.2.2.2.2.2 - M.2.2.2.2.2)) (zPc G σ as M) (zQc G o M') (zXc G o M') (M'.2.2.2.2.1 - M.2.2.2.2.1) (M'.2.2.2.2.2 - M.2.2.2.2.2) (zA G) := by
  obtain ⟨a1, a2, a3, a4, a5, a6, a7, a8⟩ := zmt_all hq hj hj2
  obtain ⟨b1, b2, b3⟩ := zrun_le _ _ _ _ _ _ _ _ _ hrun
  have body : ∀ p e s m args below meth c s₁, BodyLoose p l q.1 (headSpec (zcw q :: zWs) (zrm d (M'.2.2.2.2.1 - M.2.2.2.2.1) (M'.2.2.2.2.2 - M.2.2.2.2.2))) q.2.1 q.2.2.1 q.2.2.2.1 e s m args below meth c s₁ → c.maxLocals = q.2.2.1 → c.exceptionTable.toList = tableOf q.2.2.2.2.1 → zPc G σ as M args s →
      W p l e (headSpec (zcw q :: zWs) (zrm d (M'.2.2.2.2.1 - M.2.2.2.2.1) (M'.2.2.2.2.2 - M.2.2.2.2.2))).room s m args below meth c s.heap [] 0 0 (vx_MQ below (zQc G o M') (zXc G o M') args s (M'.2.2.2.2.1 - M.2.2.2.2.1) (M'.2.2.2.2.2 - M.2.2.2.2.2) (zA G)) (entryFrame m args q.2.2.1) := by
    intro p e s m args below meth c s₁ B hml htab hv
    obtain ⟨rfl, hR, hK, hE, hNC, hbs, hX⟩ := hv
    obtain ⟨ls, he, hlv, hnl⟩ := zentry (G := G) hq hcat hlen m
    rw [he]
    have hts := atoms_spec (ws := zcw q :: zWs) B.pre
    have hown : s.vm.findClass (zcn (j / 200)) = some m.cls := by rw [← a1]; exact findClass_of_methodNamed B.named
    have hBd : zBd p s m (as.map (zcv G)).toArray c q.2.1 (j / 200) G σ := ⟨B.exec, B.bytes, hown, fun w hw => hts w (List.mem_cons_of_mem _ hw), hK, hbs, hE⟩
    have hin : zini j = true → meth.name = "<init>" := fun hi => (name_of_methodNamed B.named B.method).1.trans (a8 hi)
    refine hP d j 0 (zarg j as) [] M o M' hrun p e _ s m _ below meth c s.heap [] 0 0 ls _ q hq hBd hNC hml B.returns B.notSynchronized hin (Nat.le_refl _) (Nat.le_refl _) hlv hnl hR va_S.rf (fun h => by have := hX h; omega) ?_ ?_ (Or.inl ⟨rfl, htab⟩) ?_
    · show 0 + M'.2.2.2.2.1 ≤ M'.2.2.2.2.1 - M.2.2.2.2.1 + M.2.2.2.2.1
      omega
    · show 0 + M'.2.2.2.2.2 ≤ M'.2.2.2.2.2 - M.2.2.2.2.2 + M.2.2.2.2.2
      omega
    · rintro v rfl pc' i len st' H' locs' cells' slots' ls' hfe hret hR' hS' hc' hs'
      obtain ⟨hd, hlen9⟩ := zfe_ok hfe hq
      exact zret_ok hBd hq B.returns B.notSynchronized hd hlen9 hret hR' hS' hc' hs'
  by_cases hh : q.2.2.2.2.1 = []
  · have hc : zcw q = Cond.code q.1 q.2.1 q.2.2.1 q.2.2.2.1 := by unfold zcw; rw [if_pos hh]
    refine vx_ofW (cc := q.2.1) (maxL := q.2.2.1) (ret := q.2.2.2.1) (ws' := zWs) a2 (by rw [hc]) ?_
    intro p e s m args below meth c s₁ B hml hno hv
    refine body p e s m args below meth c s₁ B hml ?_ hv
    rw [hh]
    show _ = []
    cases ht : c.exceptionTable.toList with
    | nil => rfl
    | cons x t => exact absurd (hno x (by rw [ht]; exact List.mem_cons_self)) id
  · have hc : zcw q = Cond.codeWith q.1 q.2.1 q.2.2.1 q.2.2.2.1 q.2.2.2.2.1 := by unfold zcw; rw [if_neg hh]
    refine vx_ofWH (cc := q.2.1) (maxL := q.2.2.1) (ret := q.2.2.2.1) (hh := q.2.2.2.2.1) (ws' := zWs) a2 (by rw [hc]) ?_
    intro p e s m args below meth c s₁ B hml hv
    refine body p e s m args below meth c s₁ B hml ?_ hv
    have hts := atoms_spec (ws := zcw q :: zWs) B.pre
    exact vx_table (x := q.1) B (by rw [← hc]; exact hts _ List.mem_cons_self)
end ZZ
end
section
section ZW
variable {p : Program} {l : Launch} {e : Env} {R : Room} {s : State} {m : MethodId} {args : Array Value} {below : List Frame} {meth : Method} {c : Code} {H : Heap} {locs : List Loc} {cells slots : Nat} {Q : State → Prop} {G : zG} {cc : ByteArray} {ls : Array Slot} {pc : Nat} {σ : Nat → Nat × (Nat → Int32)} {cn : Nat} {st st' : List Value} {pc' : Nat} {M M' : zMem}
theorem zS_ok (B : zBd p s m args c cc cn G σ) {ini : Bool} (hin : ini = true → meth.name = "<init>") (hls : ls.size = c.maxLocals) (hRf : 6 ≤ R.frames) (hRl : 150 ≤ R.locals) {i : Instr} {len : Nat} (hd : decode cc pc = .ok (i, len)) (hlen : zsw i = true ∨ zlen i = len) (hR : zRel G M H) (hS : va_S (zA G) s.heap H locs) (hX : M.2.2.2.1 = true → s.heap.size + cells ≤ G.2.2.1 + M.1.length) (h : zS σ cn ini i pc st M = some (pc', st', M')) (hrc : cells + M'.2.2.2.2.1 ≤ R.cells + M.2.2.2.2.1) (hrs : slots + M'.2.2.2.2.2 ≤ R.slots + M.2.2.2.2.2)
    (k : zKt p l e R s m args below meth c Q G ls cells slots M pc' st' M') : W p l e R s m args below meth c H locs cells slots Q (F0 m pc ls (st.map (zcv G))) := by
  cases i
  case getfield idx => obtain rfl := zlk hlen rfl; exact zgetf_ok B hd hR hS h k
  case putfield idx => obtain rfl := zlk hlen rfl; exact zputf_ok B hin hd hR hS h k
  case iaload => obtain rfl := zlk hlen rfl; exact ziald_ok B hd hR hS h k
  case baload => obtain rfl := zlk hlen rfl; exact zbald_ok B hd hR hS h k
  case laload => obtain rfl := zlk hlen rfl; exact zlald_ok B hd hR hS h k
  case aaload => obtain rfl := zlk hlen rfl; exact zaald_ok B hd hR hS h k
  case iastore => obtain rfl := zlk hlen rfl; exact ziast_ok B hd hR hS h k
  case bastore => obtain rfl := zlk hlen rfl; exact zbast_ok B hd hR hS h k
  case lastore => obtain rfl := zlk hlen rfl; exact zlast_ok B hd hR hS h k
  case aastore => obtain rfl := zlk hlen rfl; exact zaast_ok B hd hR hS h k
  case arraylength => obtain rfl := zlk hlen rfl; exact zalen_ok B hd hR hS h k
  case new idx => obtain rfl := zlk hlen rfl; exact znew_ok B hd hR hS hX h hrc hrs k
  case newarray t => obtain rfl := zlk hlen rfl; exact znewa_ok B hd hR hS hX h hrc hrs k
  case anewarray idx => obtain rfl := zlk hlen rfl; exact zanew_ok B hd hR hS hX h hrc hrs k
  case getstatic idx => obtain rfl := zlk hlen rfl; exact zgets_ok B hd hR hS h k
  case invokespecial idx => obtain rfl := zlk hlen rfl; exact zoin_ok B hls hRf hRl hd hR hS h k
  case invokestatic idx => obtain rfl := zlk hlen rfl; exact zacp_ok B hls hRf hRl hd hR hS h k
  all_goals cases h
theorem zmx_c : Cond.code Lib.Math.max.name Lib.Math.max.code 2 (some .int) ∈ zWs := List.mem_filter.mpr ⟨List.mem_of_getElem? (i := 573) (by decide +kernel), rfl⟩
theorem zmn_c : Cond.code Lib.Math.min.name Lib.Math.min.code 2 (some .int) ∈ zWs := List.mem_filter.mpr ⟨List.mem_of_getElem? (i := 780) (by decide +kernel), rfl⟩
theorem zma_i : Cond.initialized "java/lang/Math" ∈ zWs := List.mem_filter.mpr ⟨List.mem_of_getElem? (i := 118) (by decide +kernel), rfl⟩
theorem zl7 {a r : Nat} (h : a ≤ 8) (hr : 150 ≤ r) : a + 13 ≤ r := by omega
theorem zmath_ok (B : zBd p s m args c cc cn G σ) (hls : ls.size = c.maxLocals) (hRf : 6 ≤ R.frames) (hRl : 150 ≤ R.locals) (hc : cells ≤ R.cells) (hs : slots ≤ R.slots) {i : Instr} {len : Nat} (hd : decode cc pc = .ok (i, len)) (hlen : zsw i = true ∨ zlen i = len) (h : zmath cn i pc st = some (pc', st')) (k : W p l e R s m args below meth c H locs cells slots Q (F0 m pc' ls (st'.map (zcv G)))) : W p l e R s m args below meth c H locs cells slots Q (F0 m pc ls (st.map (zcv G))) := by
  obtain ⟨hx, hb, hown, hts, hK, hbs, hE⟩ := B
  unfold zmath at h
  cases i
  case invokestatic idx =>
    obtain rfl := zlk hlen rfl
    dsimp only at h
    split at h
    · rename_i pl hl
      obtain ⟨q, hq, w1, w2, -⟩ := zk1_ok hl
      cases hq
      split at h
      · rename_i y x r
        rw [cond_eq_ite] at h
        split at h
        · rename_i hs9
          cases h
          exact va_mmax hx hb hls.symm hown (hts _ w1) (hts _ w2) (hts _ zma_i) (hts _ zmx_c) (Nat.le_trans (by decide) hRf) (by rw [zsum_map]; exact zl7 (zble hs9) hRl) hc hs hd k
        · cases h
      · cases h
    · rename_i pl hl
      obtain ⟨q, hq, w1, w2, -⟩ := zk1_ok hl
      cases hq
      split at h
      · rename_i y x r
        rw [cond_eq_ite] at h
        split at h
        · rename_i hs9
          cases h
          exact va_mmin hx hb hls.symm hown (hts _ w1) (hts _ w2) (hts _ zma_i) (hts _ zmn_c) (Nat.le_trans (by decide) hRf) (by rw [zsum_map]; exact zl7 (zble hs9) hRl) hc hs hd k
        · cases h
      · cases h
    · cases h
  all_goals cases h
end ZW
end
section
theorem zar {S c c' b l l1 n n1 : Nat} (h1 : S + c ≤ b + l) (h2 : c' + n = c + n1) (h3 : n1 + l = n + l1) : S + c' ≤ b + l1 := by omega
theorem zar2 {c c' m n n1 r : Nat} (h : c + m ≤ r + n) (h2 : c' + n = c + n1) : c' + m ≤ r + n1 := by omega
theorem zar3 {c m n n1 r : Nat} (h : c + m ≤ r + n) (h2 : n1 ≤ m) : c + n1 ≤ r + n := by omega
theorem zar4 {c m n r : Nat} (h : c + m ≤ r + n) (h2 : n ≤ m) : c ≤ r := by omega
theorem zar5 {c m n n1 r : Nat} (h : c + m ≤ r + n) (h0 : n ≤ n1) (h2 : n1 ≤ m) : c + (n1 - n) ≤ r := by omega
theorem zar6 {c n n1 : Nat} (h0 : n ≤ n1) : c + (n1 - n) + n = c + n1 := by omega
theorem zar7 {d r : Nat} (h : d + 1 + 8 ≤ r) : d + 9 ≤ r := by omega
theorem zar8 {d r : Nat} (h : 40 * (d + 1) + 200 ≤ r) : 40 * d + 240 ≤ r := by omega
theorem zar9 {d r : Nat} (h : d + 8 ≤ r) : 6 ≤ r ∧ 8 ≤ r := by omega
theorem zar10 {d r : Nat} (h : 40 * d + 200 ≤ r) : 150 ≤ r ∧ 200 ≤ r := by omega
theorem zar11 {c n k r : Nat} (h : c + (n + k) ≤ r + n) : c + k ≤ r := by omega
theorem ztab0 {q : zMt} {j : Nat} {c : Code} (hq : zent j = some q) (hn : znoH j = true) (htab : c.exceptionTable.toList = tableOf q.2.2.2.2.1) : ∀ x ∈ c.exceptionTable.toList, False := by
  unfold znoH at hn
  rw [hq] at hn
  rw [htab, List.isEmpty_iff.mp hn]
  intro x hx
  cases hx
set_option maxHeartbeats 4000000 in
theorem zsound {l : Launch} {G : zG} {σ : Nat → Nat × (Nat → Int32)} (hl : l.stackTraces = false) : ∀ n, zPn l G σ n := by
  intro n
  induction n with
  | zero => intro d j pc lv st M o M' h; cases h
  | succ n ih =>
    intro d j pc lv st M o M' h p e R s m args below meth c H locs cells slots ls Q q hq B hNC hml hr hlocks hini hRf hRl hlv hnl hR hS hX hRc hRs hQ fin
    have hls : ls.size = c.maxLocals := hlv.1.trans hml.symm
    have hle := zrun_le _ _ _ _ _ _ _ _ _ h
    rw [zrun] at h
    split at h
    · cases h
    · rename_i i len hfe
      obtain ⟨hd, hlen⟩ := zfe_ok hfe hq
      split at h
      · rename_i pc' lv' st' hp
        exact zP_ok B.1 B.2.1 B.2.2.1 B.2.2.2.1 hd hlen hlv hnl hp (fun ls' h1 h2 => ih d j pc' lv' st' M o M' h p e R s m args below meth c H locs cells slots ls' Q q hq B hNC hml hr hlocks hini hRf hRl h1 h2 hR hS hX hRc hRs hQ fin)
      · split at h
        · rename_i pc' st' M1 hs1
          have hle1 := zS_le hs1
          have hle2 := zrun_le _ _ _ _ _ _ _ _ _ h
          refine zS_ok B hini hls (zar9 hRf).1 (zar10 hRl).1 hd hlen hR hS hX hs1 (zar3 hRc hle2.1) (zar3 hRs hle2.2.1) (fun H' locs' cells' slots' e1 e2 hR' hS' => ?_)
          exact ih d j pc' lv st' M1 o M' h p e R s m args below meth c H' locs' cells' slots' ls Q q hq B hNC hml hr hlocks hini hRf hRl hlv hnl hR' hS' (fun hx => zar (hX (hle1.2.2 hx).1) e1 (hle1.2.2 hx).2) (zar2 hRc e1) (zar2 hRs e2) hQ fin
        · split at h
          · rename_i v hret
            cases h
            exact fin v rfl pc i len st H locs cells slots ls hfe hret hR hS (zar4 hRc (Nat.le_refl _)) (zar4 hRs (Nat.le_refl _))
          · split at h
            · rename_i e0 ht
              rw [cond_eq_ite] at h
              split at h
              · rename_i hc
                cases h
                rw [Bool.and_eq_true] at hc
                rcases hQ with ⟨hQ, htab⟩ | ⟨⟨v, hv⟩, -⟩
                · subst hQ
                  have h1 : cells + 1 ≤ R.cells := zar11 (n := M.2.2.2.2.1) hRc
                  have h2 : slots + 6 ≤ R.slots := zar11 (n := M.2.2.2.2.2) hRs
                  exact zthr_ok hl B hq hNC hlocks hls (ztab0 hq hc.2 htab) ht (zble hc.1) hR hS (zar9 hRf).2 (zar10 hRl).2 h1 h2 h1 h2
                · cases hv
              · cases h
            · split at h
              · split at h
                · rename_i pc' st' hmt
                  exact zmath_ok B hls (zar9 hRf).1 (zar10 hRl).1 (zar4 hRc hle.1) (zar4 hRs hle.2.1) hd hlen hmt (ih d j pc' lv st' M o M' h p e R s m args below meth c H locs cells slots ls Q q hq B hNC hml hr hlocks hini hRf hRl hlv hnl hR hS hX hRc hRs hQ fin)
                · cases h
              · rename_i j' as rest hcall
                split at h
                · cases h
                · rename_i d'
                  split at h
                  · cases h
                  · rename_i v M1 hr1
                    have hle1 := zrun_le _ _ _ _ _ _ _ _ _ hr1
                    have hle2 := zrun_le _ _ _ _ _ _ _ _ _ h
                    intro T hT X
                    have hsz := X.heapSize
                    rw [hT] at hsz
                    have hrun := zcall_run (l := l) (e := e) (below := below) (meth := meth) (locs := locs) B hls hd hlen hcall hR (zPc_at B hNC hR hS (fun hx => Nat.le_trans hsz (hX hx))) (zar7 hRf) (zar8 hRl) (cells := cells) (slots := slots) ⟨zar5 hRc hle1.1 hle2.1, zar5 hRs hle1.2.1 hle2.2.1⟩ (fun q2 hq2 g1 g2 g3 => zmet ih hr1 hq2 g1 g2 g3 (zcall_len hcall hq2))
                    rcases hrun T hT X with ⟨v', st₀, t, T', L, h0, X', hL, e1, e2, ⟨hv, hR1, hF⟩, hgo⟩ | ⟨q9, st₀, t, T', L, E, ce, h0, X', hL, e1, e2, hxc, -⟩
                    · cases hv
                      obtain ⟨k1, k2, k3⟩ := vx_keep h0 e1 hS (fun _ _ h => h) (fun _ h => h) hL hF
                      have hst : (v.toList ++ rest).map (zcv G) = (v.map (zcv G)).toList ++ rest.map (zcv G) := by cases v <;> simp
                      have hW := ih (d' + 1) j (pc + 3) lv (v.toList ++ rest) M1 o M' h p e R s m args below meth c T'.heap (locs ++ L) _ _ ls Q q hq B hNC hml hr hlocks hini hRf hRl hlv hnl (by rw [e1]; exact hR1) k3 (fun hx => zar (hX (hle1.2.2 hx).1) (zar6 hle1.1) (hle1.2.2 hx).2) (zar2 hRc (zar6 hle1.1)) (zar2 hRs (zar6 hle1.2.1)) hQ fin
                      rw [hst] at hW
                      obtain ⟨t2, a1, b1⟩ := hW T' rfl X'
                      exact ⟨t2, hgo t2 a1, b1⟩
                    · exact absurd hxc id
                  · rename_i e0 M1 hr1
                    have hle1 := zrun_le _ _ _ _ _ _ _ _ _ hr1
                    have hM1 : M' = M1 := by
                      split at h
                      · cases h; rfl
                      · rw [cond_eq_ite] at h
                        split at h
                        · cases h; rfl
                        · cases h
                    subst hM1
                    intro T hT X
                    have hsz := X.heapSize
                    rw [hT] at hsz
                    have hrun := zcall_run (l := l) (e := e) (below := below) (meth := meth) (locs := locs) B hls hd hlen hcall hR (zPc_at B hNC hR hS (fun hx => Nat.le_trans hsz (hX hx))) (zar7 hRf) (zar8 hRl) (cells := cells) (slots := slots) ⟨zar5 hRc hle1.1 (Nat.le_refl _), zar5 hRs hle1.2.1 (Nat.le_refl _)⟩ (fun q2 hq2 g1 g2 g3 => zmet ih hr1 hq2 g1 g2 g3 (zcall_len hcall hq2))
                    rcases hrun T hT X with ⟨v', st₀, t, T', L, h0, X', hL, e1, e2, hf, -⟩ | ⟨q9, st₀, t, T', L, E, ce, h0, X', hL, e1, e2, ⟨hE, hR1, hF⟩, hce, hcv, hcl, hst⟩
                    · exact absurd hf id
                    · subst hE
                      obtain ⟨k1, k2, k3⟩ := vx_keep h0 e1 hS (fun _ _ h => h) (fun _ h => h) hL hF
                      have hR2 : zRel G M' T'.heap := by rw [e1]; exact hR1
                      have hce2 : T'.heap[q9]? = some ce := by rw [e1]; exact hce
                      have hc9 : cells + (M'.2.2.2.2.1 - M.2.2.2.2.1) ≤ R.cells := zar5 hRc hle1.1 (Nat.le_refl _)
                      have hs9 : slots + (M'.2.2.2.2.2 - M.2.2.2.2.2) ≤ R.slots := zar5 hRs hle1.2.1 (Nat.le_refl _)
                      split at h
                      · rename_i a hh
                        cases h
                        rcases hQ with ⟨hQ, htab⟩ | ⟨-, hno⟩
                        · subst hQ
                          obtain ⟨t2, a1, b1⟩ := zcatch (l := l) (e := e) (R := R) (below := below) (mc := R.cells) (ms := R.slots) (XC := zXc G (.inl (some (.int (Int32.ofNat a)))) M') (rest := rest.map (zcv G)) (pc := pc) hh hq B hNC hr hlocks htab hlv hR2 k3 hc9 hs9 hce2 hcv hcl T' rfl X'
                          exact ⟨t2, hst.trans a1, b1⟩
                        · rw [hno pc e0] at hh
                          cases hh
                      · rw [cond_eq_ite] at h
                        split at h
                        · rename_i hnh
                          cases h
                          rcases hQ with ⟨hQ, htab⟩ | ⟨⟨v, hv⟩, -⟩
                          · subst hQ
                            have hv9 := ztab0 hq hnh htab
                            obtain ⟨t2, a1, b1⟩ := vx_out (l := l) (p := p) (e := e) (R := R) (s := s) (m := m) (args := args) (below := below) (meth := meth) (c := c) (ls := ls) (rest := rest.map (zcv G)) (pc := pc) (Qc := zQc G (.inr e0) M') (XC := zXc G (.inr e0) M') (mc := R.cells) (ms := R.slots) (free := zA G) (fun x hx => absurd hx (fun h => hv9 x h)) hlocks hce2 hcv hcl (fun t9 ht9 _ => ⟨rfl, by rw [ht9]; exact hR2, by rw [ht9]; exact k3.1, fun q h1 h2 => by rw [ht9]; exact k3.2.1 q h1 h2⟩) k3.2.2 hc9 hs9 T' rfl X'
                            exact ⟨t2, hst.trans a1, b1⟩
                          · cases hv
                        · cases h
end
section
/-! runs without counting: zEv, and a rule for each kind of step -/
theorem zrun_mono {σ : Nat → Nat × (Nat → Int32)} : ∀ (n d j pc : Nat) (lv : zLv) (st : List Value) (M : zMem) (r : zO × zMem), zrun σ n d j pc lv st M = some r → zrun σ (n + 1) d j pc lv st M = some r := by
  intro n
  induction n with
  | zero => intro d j pc lv st M r h; cases h
  | succ n ih =>
    intro d j pc lv st M r h
    rw [zrun] at h ⊢
    cases hf : zfe j pc with
    | none => simp only [hf] at h; cases h
    | some x =>
      obtain ⟨i, len⟩ := x
      simp only [hf] at h ⊢
      cases hp : zP (j / 200) i pc lv st with
      | some y =>
        obtain ⟨a, b, c⟩ := y
        simp only [hp] at h ⊢
        exact ih _ _ _ _ _ _ _ h
      | none =>
        simp only [hp] at h ⊢
        cases hs : zS σ (j / 200) (zini j) i pc st M with
        | some y =>
          obtain ⟨a, b, c⟩ := y
          simp only [hs] at h ⊢
          exact ih _ _ _ _ _ _ _ h
        | none =>
          simp only [hs] at h ⊢
          cases hr : zret j i st with
          | some v => simp only [hr] at h ⊢; exact h
          | none =>
            simp only [hr] at h ⊢
            cases ht : zthr j pc with
            | some e0 => simp only [ht] at h ⊢; exact h
            | none =>
              simp only [ht] at h ⊢
              cases hc : zcall (j / 200) i st M with
              | none =>
                simp only [hc] at h ⊢
                cases hm : zmath (j / 200) i pc st with
                | none => simp only [hm] at h; cases h
                | some y =>
                  obtain ⟨a, b⟩ := y
                  simp only [hm] at h ⊢
                  exact ih _ _ _ _ _ _ _ h
              | some y =>
                obtain ⟨j', as, rest⟩ := y
                simp only [hc] at h ⊢
                cases d with
                | zero => simp only at h; cases h
                | succ d =>
                  simp only at h ⊢
                  cases hz : zrun σ n d j' 0 (zarg j' as) [] M with
                  | none => simp only [hz] at h; cases h
                  | some z =>
                    rw [ih _ _ _ _ _ _ _ hz]
                    obtain ⟨o, M1⟩ := z
                    simp only [hz] at h
                    cases o with
                    | inl v =>
                      simp only at h ⊢
                      exact ih _ _ _ _ _ _ _ h
                    | inr e0 =>
                      simp only at h ⊢
                      exact h
theorem zrun_up {σ : Nat → Nat × (Nat → Int32)} {n k d j pc : Nat} {lv : zLv} {st : List Value} {M : zMem} {r : zO × zMem} (h : zrun σ n d j pc lv st M = some r) (hk : n ≤ k) : zrun σ k d j pc lv st M = some r := by
  induction hk with
  | refl => exact h
  | step _ ih => exact zrun_mono _ _ _ _ _ _ _ _ ih
def zEv (σ : Nat → Nat × (Nat → Int32)) (d j pc : Nat) (lv : zLv) (st : List Value) (M : zMem) (o : zO) (M' : zMem) : Prop := ∃ n, zrun σ n d j pc lv st M = some (o, M')
/-- a method's call -/
def zCal (σ : Nat → Nat × (Nat → Int32)) (d j : Nat) (as : List Value) (M : zMem) (o : zO) (M' : zMem) : Prop := zEv σ d j 0 (zarg j as) [] M o M'
section ZE
variable {σ : Nat → Nat × (Nat → Int32)} {d j pc : Nat} {lv : zLv} {st : List Value} {M : zMem} {o : zO} {M' : zMem}
theorem zeP {i : Instr} {len pc' : Nat} {lv' : zLv} {st' : List Value} (hf : zfe j pc = some (i, len)) (hp : zP (j / 200) i pc lv st = some (pc', lv', st')) (k : zEv σ d j pc' lv' st' M o M') : zEv σ d j pc lv st M o M' := by
  obtain ⟨n, h⟩ := k
  refine ⟨n + 1, ?_⟩
  rw [zrun]
  simp only [hf, hp]
  exact h
theorem zeS {i : Instr} {len pc' : Nat} {st' : List Value} {M1 : zMem} (hf : zfe j pc = some (i, len)) (hp : zP (j / 200) i pc lv st = none) (hs : zS σ (j / 200) (zini j) i pc st M = some (pc', st', M1)) (k : zEv σ d j pc' lv st' M1 o M') : zEv σ d j pc lv st M o M' := by
  obtain ⟨n, h⟩ := k
  refine ⟨n + 1, ?_⟩
  rw [zrun]
  simp only [hf, hp, hs]
  exact h
theorem zeR {i : Instr} {len : Nat} {v : Option Value} (hf : zfe j pc = some (i, len)) (hp : zP (j / 200) i pc lv st = none) (hs : zS σ (j / 200) (zini j) i pc st M = none) (hr : zret j i st = some v) : zEv σ d j pc lv st M (.inl v) M := by
  refine ⟨1, ?_⟩
  rw [zrun]
  simp only [hf, hp, hs, hr]
theorem zeT {i : Instr} {len e0 : Nat} (hf : zfe j pc = some (i, len)) (hp : zP (j / 200) i pc lv st = none) (hs : zS σ (j / 200) (zini j) i pc st M = none) (hr : zret j i st = none) (ht : zthr j pc = some e0) (hc : (Nat.ble (zsum st) 8 && znoH j) = true) : zEv σ d j pc lv st M (.inr e0) (zthM M) := by
  refine ⟨1, ?_⟩
  rw [zrun]
  simp only [hf, hp, hs, hr, ht, hc, cond_true]
theorem zeC {i : Instr} {len j' : Nat} {as rest : List Value} {v : Option Value} {M1 : zMem} (hf : zfe j pc = some (i, len)) (hp : zP (j / 200) i pc lv st = none) (hs : zS σ (j / 200) (zini j) i pc st M = none) (hr : zret j i st = none) (ht : zthr j pc = none) (hc : zcall (j / 200) i st M = some (j', as, rest)) (h1 : zCal σ d j' as M (.inl v) M1) (k : zEv σ (d + 1) j (pc + 3) lv (v.toList ++ rest) M1 o M') : zEv σ (d + 1) j pc lv st M o M' := by
  obtain ⟨n1, h1⟩ := h1
  obtain ⟨n2, h2⟩ := k
  refine ⟨max n1 n2 + 1, ?_⟩
  rw [zrun]
  simp only [hf, hp, hs, hr, ht, hc, zrun_up h1 (Nat.le_max_left n1 n2)]
  exact zrun_up h2 (Nat.le_max_right n1 n2)
theorem zeX {i : Instr} {len j' e0 : Nat} {as rest : List Value} {M1 : zMem} (hf : zfe j pc = some (i, len)) (hp : zP (j / 200) i pc lv st = none) (hs : zS σ (j / 200) (zini j) i pc st M = none) (hr : zret j i st = none) (ht : zthr j pc = none) (hc : zcall (j / 200) i st M = some (j', as, rest)) (h1 : zCal σ d j' as M (.inr e0) M1) (hh : zhnd j pc e0 = none) (hn : znoH j = true) : zEv σ (d + 1) j pc lv st M (.inr e0) M1 := by
  obtain ⟨n1, h1⟩ := h1
  refine ⟨n1 + 1, ?_⟩
  rw [zrun]
  have h1' : zrun σ n1 d j' 0 (zarg j' as) [] M = some (.inr e0, M1) := h1
  simp only [hf, hp, hs, hr, ht, hc, h1', hh, hn, cond_true]
theorem zeH {i : Instr} {len j' e0 a : Nat} {as rest : List Value} {M1 : zMem} (hf : zfe j pc = some (i, len)) (hp : zP (j / 200) i pc lv st = none) (hs : zS σ (j / 200) (zini j) i pc st M = none) (hr : zret j i st = none) (ht : zthr j pc = none) (hc : zcall (j / 200) i st M = some (j', as, rest)) (h1 : zCal σ d j' as M (.inr e0) M1) (hh : zhnd j pc e0 = some a) : zEv σ (d + 1) j pc lv st M (.inl (some (.int (Int32.ofNat a)))) M1 := by
  obtain ⟨n1, h1⟩ := h1
  refine ⟨n1 + 1, ?_⟩
  rw [zrun]
  have h1' : zrun σ n1 d j' 0 (zarg j' as) [] M = some (.inr e0, M1) := h1
  simp only [hf, hp, hs, hr, ht, hc, h1', hh]
theorem zeM {i : Instr} {len pc' : Nat} {st' : List Value} (hf : zfe j pc = some (i, len)) (hp : zP (j / 200) i pc lv st = none) (hs : zS σ (j / 200) (zini j) i pc st M = none) (hr : zret j i st = none) (ht : zthr j pc = none) (hc : zcall (j / 200) i st M = none) (hm : zmath (j / 200) i pc st = some (pc', st')) (k : zEv σ d j pc' lv st' M o M') : zEv σ d j pc lv st M o M' := by
  obtain ⟨n, h⟩ := k
  refine ⟨n + 1, ?_⟩
  rw [zrun]
  simp only [hf, hp, hs, hr, ht, hc, hm]
  exact h
end ZE
end
section
/-! THE CLAIM OUT OF ONE WALK OF THE LAW'S BODY. Your part is whole_start (and what it stands on); all else here is the same for every law, but numbers. -/
def R_law : String := "ElidedLocksLaw"
def lw_P (b : Addr) (xs : List Int32) (args : Array Value) (s : State) : Prop := args = #[.ref b] ∧ s.IntsAt b xs ∧ xs.length ≤ 6 ∧ (Jvm.Cond.and given_1 narrow_1).before args s = true
def lw_Q (_ : Array Value) (s : State) (o : Outcome) (t : State) : Prop := o = .returned (some (.int 1)) ∧ Framed s o t [] 600002 7302232
def lw_Z (below : List Frame) (a : Array Value) (s : State) : State → Prop := fun t => ∃ o, t.status = .running ∧ Ended t below o ∧ lw_Q a s o t
/-- the law's own end, with 1 on the stack, nothing written that was there before, its room as the claim has it -/
theorem lw_ret {p : Program} {l : Launch} {e : Env} {s : State} {m : MethodId} {below : List Frame} {meth : Method} {c : Code} {b : Nat} (hx : p.tables.exec = Jvm.exec) (hb : c.code = code) (hr : meth.sig.returnType = ret) (hlocks : meth.locks = false) {pc : Nat} {H : Heap} {ls : Array Slot} (hdg : decode code pc = .ok (.ireturn, 1)) : W p l e room_1 s m #[Value.ref b] below meth c H [] 600002 7302232 (lw_Z below #[Value.ref b] s) (F0 m pc ls [.int 1]) := by
  intro T hT X
  obtain ⟨fs, hret, hrun, hended, hW, hframe⟩ := X.leave (v := some (.int 1)) (hlocks := hlocks) (fun h => by rw [hr] at h; cases h)
  have hmeth' : T.vm.method? m = some meth := X.method'
  refine ⟨T.setFrames fs, ?_, .returned (some (.int 1)), hrun, hended, rfl, ⟨_, rfl⟩, hW, hframe⟩
  jvm_step X.here [X.here.top, hx, hb, hdg, hmeth', hr, ret, narrow_b1]
  (try refine ⟨rfl, ?_⟩); (try refine ⟨rfl, ?_⟩)
  first | (intro acts; rw [hret _ acts rfl rfl rfl]) | rw [hret _ _ rfl rfl rfl]
  exact Steps.refl _
/-- what holds at the law's entry: the machine, the code, the tables' words (any of lw_tbl by 'hts w (by decide +kernel)'), the script of L ints xs at the cell b, what the Statement gives of the start (any of its parts by flat_of_before) -/
def lw_At (p : Program) (s : State) (m : MethodId) (meth : Method) (c : Code) (b L : Nat) (xs : Nat → Int32) : Prop :=
  p.tables.exec = Jvm.exec ∧ c.code = code ∧ meth.sig.returnType = ret ∧ c.maxLocals = 7 ∧ s.vm.findClass R_law = some m.cls ∧ (∀ w ∈ lw_tbl, w.before #[Value.ref b] s = true) ∧ va_X b L xs s s.heap ∧ b < s.heap.size ∧ meth.locks = false ∧ (Jvm.Cond.and given_1 narrow_1).before #[Value.ref b] s = true
/-! the law's entry: the surroundings stand -/
def zla : Nat → List Int32 := fun n => match n with
  | 0 => [1, 1, 1, 1, 0, 0, 0, 1, 0]
  | 1 => [8, 9, 4, 8, 16, 9, 15, 9, 1]
  | 2 => [0, 0, 0, 0, 0, 0, 1, 0]
  | _ => [3, 3, 31, 31, 999, 999, 9, 0]
abbrev zFl : List Cond := flatC (Cond.and given_1 narrow_1)
def zflc (n : Nat) : Prop := Cond.arrayOf (.static "ElidedLocks" (zsn n) "[I") .int ∈ zFl ∧ Cond.eq (.length (.static "ElidedLocks" (zsn n) "[I")) (.int (Int32.ofNat (zla n).length)) ∈ zFl ∧ ∀ k, k < (zla n).length → Cond.eq (.elem (.static "ElidedLocks" (zsn n) "[I") (.int (Int32.ofNat k))) (.int ((zla n).getD k 0)) ∈ zFl
theorem zfl_0 : zflc 0 := by unfold zflc; decide +kernel
theorem zfl_1 : zflc 1 := by unfold zflc; decide +kernel
theorem zfl_2 : zflc 2 := by unfold zflc; decide +kernel
theorem zfl_3 : zflc 3 := by unfold zflc; decide +kernel
theorem zfl_ls : ∀ n, n < 4 → Cond.laysStatic "ElidedLocks" (zsn n) "[I" ∈ lw_tbl := by decide +kernel
theorem zfl_in : Cond.initialized "ElidedLocks" ∈ lw_tbl := by decide +kernel
theorem zfl_nc : ∀ a, a < 5 → ∀ b, b < 5 → a ≠ b → Cond.not (.castable (zex a) (zex b)) ∈ zFl := by decide +kernel
theorem zfl_un : Cond.isRef (.static Bundle.tN "UNASSIGNED_STACK" Bundle.steD) ∈ zFl ∧ Cond.isRef (.static Bundle.tN "SUPPRESSED_SENTINEL" Bundle.listD) ∈ zFl := by decide +kernel
theorem zfl_ul : Cond.laysStatic Bundle.tN "UNASSIGNED_STACK" Bundle.steD ∈ lw_tbl ∧ Cond.laysStatic Bundle.tN "SUPPRESSED_SENTINEL" Bundle.listD ∈ lw_tbl ∧ Cond.initialized Bundle.tN ∈ lw_tbl := by decide +kernel
theorem zfl_ao : Cond.arrayOver (.object "ElidedLocks$Lock") ∈ lw_tbl ∧ Cond.arrayOver (.object "ElidedLocks$Strand") ∈ lw_tbl := by decide +kernel
theorem zfl_ds : ∀ w ∈ zDs, w ∈ lw_tbl := by decide +kernel
theorem zfl_st : zstr.all (fun q => q.1 == 8 && decide (lw_tbl[q.2.2.2]? = some (.stringRef (zcn q.1) q.2.1 q.2.2.1))) = true := by decide +kernel
theorem zXof {args : Array Value} {s : State} {tm : Term} {N : Nat} {f : Nat → Int32} (hN : N < 2 ^ 31) (harr : (Cond.arrayOf tm .int).before args s = true) (hlen : (Term.length tm).eval args s none [] s = some (.int (Int32.ofNat N))) (hel : ∀ j : Nat, j < N → (Term.elem tm (.int (Int32.ofNat j))).eval args s none [] s = some (.int (f j))) : ∃ t : Nat, tm.eval args s none [] s = some (.ref t) ∧ t < s.heap.size ∧ va_X t N f s s.heap := by
  obtain ⟨t, ht, cell, hcell, hof, hkn, hle, hsz, hj, -⟩ := va_Tof (f := fun j => .int (f j)) (A := fun _ => False) hN harr hlen hel (fun _ _ h => h)
  obtain ⟨t2, cell2, ht2, hat, -⟩ := Term.length_spec hlen
  cases ht.symm.trans ht2
  obtain ⟨hcell2, -, -, -⟩ := State.arrayAt?_spec hat
  cases Option.some.inj (hcell.symm.trans hcell2)
  have hs31 : cell.slots.size < 2 ^ 31 := by
    simp only [Term.eval, ht, hat, Option.bind_eq_bind, Option.bind_some] at hlen
    by_cases hlt : cell.slots.size < 2147483648
    · exact hlt
    · simp [hlt] at hlen
  have hse : cell.slots.size = N := by
    have h1 : nI cell.slots.size = nI N := hsz
    have h2 := congrArg Int32.toNatClampNeg h1
    rw [nI_clamp hs31, nI_clamp hN] at h2
    exact h2
  exact ⟨t, ht, (Array.getElem?_eq_some_iff.mp hcell).1, cell, hcell, hof, hkn, hse, hj⟩
def zsig (L : Nat) (xs : Nat → Int32) : Nat → Nat × (Nat → Int32) := fun j => match j with
  | 0 => (L, xs)
  | n + 1 => ((zla n).length, fun k => (zla n).getD k 0)
theorem zstart {p : Program} {s : State} {m : MethodId} {meth : Method} {c : Code} {b L : Nat} {xs : Nat → Int32} (C0 : lw_At p s m meth c b L xs) : ∃ G : zG, zBd p s m #[Value.ref b] c code 10 G (zsig L xs) ∧ zNC s ∧ G.2.2.1 = s.heap.size ∧ zad G 1000 = b := by
  obtain ⟨hx, hb, hr, hml, hown, hts, hX, hbl, hlocks, hgv⟩ := C0
  have hF := flat_of_before _ hgv
  have hzw : ∀ w ∈ zWs, w.before #[Value.ref b] s = true := fun w hw => hts w (List.mem_filter.mp hw).1
  -- the classes
  have hK0 : ∀ k : Nat, ∃ ci : ClassId × (Nat → Nat), ∀ q : vw_C, vwCl[k]? = some q → u_Kn s q.1 q.2.1 q.2.2 ci.1 ci.2 := by
    intro k
    cases hq : vwCl[k]? with
    | none => exact ⟨(0, fun _ => 0), fun q h => nomatch h⟩
    | some q =>
      obtain ⟨cC, iS, h⟩ := u_known (C := q.1) (T := q.2.1) (N := q.2.2) (n := q.2.2) hzw (zcl_in hq) (hzw _ (zcl_all hq).2.1)
      exact ⟨(cC, iS), fun q2 h2 => by cases h2; exact h⟩
  obtain ⟨D, hD⟩ := Classical.axiomOfChoice hK0
  -- the arrays
  obtain ⟨cI, kI, oI, i1, i2, i3⟩ := Cond.arrayClass_spec (hzw _ zarr_i)
  obtain ⟨cB, kB, oB, b1, b2, b3⟩ := Cond.arrayClass_spec (hzw _ zarr_b)
  obtain ⟨cJ, kJ, oJ, j1, j2, j3⟩ := Cond.arrayClass_spec (hzw _ zarr_l)
  obtain ⟨oK, cK, kK, k1, -, k2, k3, k4⟩ := Cond.arrayOver_spec (hts _ zfl_ao.1)
  obtain ⟨oT, cT, kT, t1, -, t2, t3, t4⟩ := Cond.arrayOver_spec (hts _ zfl_ao.2)
  -- the rows that stand from the start
  have hrow : ∀ n, n < 4 → ∃ t : Nat, (Term.static "ElidedLocks" (zsn n) "[I").eval #[Value.ref b] s none [] s = some (.ref t) ∧ t < s.heap.size ∧ va_X t (zla n).length (fun k => (zla n).getD k 0) s s.heap := by
    intro n hn
    have hc : zflc n := by
      match n, hn with
      | 0, _ => exact zfl_0
      | 1, _ => exact zfl_1
      | 2, _ => exact zfl_2
      | 3, _ => exact zfl_3
      | k + 4, h => exact absurd h (by omega)
    have hl : (zla n).length < 2 ^ 31 := by
      match n, hn with
      | 0, _ => decide
      | 1, _ => decide
      | 2, _ => decide
      | 3, _ => decide
      | k + 4, h => exact absurd h (by omega)
    exact zXof hl (hF _ hc.1) (va_eqv (hF _ hc.2.1) rfl) (fun j hj => va_eqv (hF _ (hc.2.2 j hj)) rfl)
  have hrow' : ∀ n : Nat, ∃ t : Nat, n < 4 → (Term.static "ElidedLocks" (zsn n) "[I").eval #[Value.ref b] s none [] s = some (.ref t) ∧ t < s.heap.size ∧ va_X t (zla n).length (fun k => (zla n).getD k 0) s s.heap := by
    intro n
    by_cases hn : n < 4
    · obtain ⟨t, ht⟩ := hrow n hn
      exact ⟨t, fun _ => ht⟩
    · exact ⟨0, fun h => absurd h hn⟩
  obtain ⟨ra, hra⟩ := Classical.axiomOfChoice hrow'
  -- the texts
  have h8 : s.vm.findClass "ElidedLocks" = some (D 8).1 := (hD 8 _ rfl).2.1
  have hstr : ∀ n : Nat, ∃ a : Nat, ∀ q : Nat × Nat × String × Nat, zstr[n]? = some q → vk_R (zcn q.1) q.2.1 q.2.2.1 a s := by
    intro n
    cases hq : zstr[n]? with
    | none => exact ⟨0, fun q h => nomatch h⟩
    | some q =>
      have h1 := List.all_eq_true.mp zfl_st q (List.mem_of_getElem? hq)
      simp only [Bool.and_eq_true, beq_iff_eq, decide_eq_true_eq] at h1
      have hw := hts _ (List.mem_of_getElem? h1.2)
      have hw' : (Cond.stringRef (zcn q.1) q.2.1 q.2.2.1).before #[] s = true := hw
      obtain ⟨k, cf, i, a, -, -, -, -, -, hev⟩ := Cond.stringRef_spec (cls := zcn q.1) (by rw [h1.1]; exact h8) hw'
      exact ⟨a, fun q2 h2 => by cases h2; exact ⟨hw', hev⟩⟩
  obtain ⟨sa, hsa⟩ := Classical.axiomOfChoice hstr
  refine ⟨(((fun k => (D k).1), (fun k => (D k).2)), (fun t => match t with | 0 => cI | 1 => cB | 2 => cK | 3 => cT | _ => cJ), s.heap.size, (fun j => match j with | 0 => b | n + 1 => if n < 4 then ra n else sa (n - 9))), ⟨hx, hb, hown, hzw, ⟨fun k q hq => hD k q hq, ?_⟩, Nat.le_refl _, ?_⟩, ⟨fun x y hx hy hxy => va_Nc.of (hF _ (zfl_nc x hx y hy hxy)), fun w hw => va_Nw.of (List.all_eq_true.mp (show zDs.all Cond.onTables = true by decide +kernel) w hw) (hts _ (zfl_ds w hw))⟩, rfl, rfl⟩
  · intro k q hq
    match k, hq with
    | 0, hq => cases hq; exact ⟨fun n z => ⟨fun k h => (by cases h), kI, i2, oI, i3⟩, i1⟩
    | 1, hq => cases hq; exact ⟨fun n z => ⟨fun k h => (by cases h), kB, b2, oB, b3⟩, b1⟩
    | 2, hq => cases hq; exact ⟨fun n z => ⟨fun k h => (by cases h), kK, k2, oK, k3⟩, kK, oK, k2, k3, k1, k4⟩
    | 3, hq => cases hq; exact ⟨fun n z => ⟨fun k h => (by cases h), kT, t2, oT, t3⟩, kT, oT, t2, t3, t1, t4⟩
    | 4, hq => cases hq; exact ⟨fun n z => ⟨fun k h => (by cases h), kJ, j2, oJ, j3⟩, j1⟩
    | k + 5, hq => cases hq
  · have hA : ∀ a : Nat, a < s.heap.size → ¬ (fun q => s.heap.size ≤ q) a := fun a h => Nat.not_le.mpr h
    refine ⟨vx_Zqof (hts _ zfl_ul.1) (hts _ zfl_ul.2.2) (hF _ zfl_un.1) hA, vx_Zqof (hts _ zfl_ul.2.1) (hts _ zfl_ul.2.2) (hF _ zfl_un.2) hA, fun n q hq => ?_, fun w hw => va_Nw.of (zNs_tab w hw) (hts _ (zNs_in w hw)), fun k hk => ?_, fun j hj => ?_, va_AO.of (hts _ zfl_ao.1), va_AO.of (hts _ zfl_ao.2)⟩
    · have h1 := hsa n q hq
      show vk_R (zcn q.1) q.2.1 q.2.2.1 (match 10 + n with | 0 => b | n + 1 => if n < 4 then ra n else sa (n - 9)) s
      rw [show 10 + n = (9 + n) + 1 by omega]
      show vk_R (zcn q.1) q.2.1 q.2.2.1 (if 9 + n < 4 then ra (9 + n) else sa (9 + n - 9)) s
      rw [if_neg (by omega), show 9 + n - 9 = n by omega]
      exact h1
    · show va_Z "ElidedLocks" (zsn k) "[I" (.ref (match 1 + k with | 0 => b | n + 1 => if n < 4 then ra n else sa (n - 9))) _ s s.heap
      rw [show 1 + k = k + 1 by omega]
      show va_Z "ElidedLocks" (zsn k) "[I" (.ref (if k < 4 then ra k else sa (k - 9))) _ s s.heap
      rw [if_pos hk]
      exact va_Zof (hts _ (zfl_ls k hk)) (hts _ zfl_in) (hra k hk).1 hA
    · match j, hj with
      | 0, _ => exact ⟨hbl, hX⟩
      | n + 1, hj =>
        have hn : n < 4 := by omega
        show (if n < 4 then ra n else sa (n - 9)) < s.heap.size ∧ va_X (if n < 4 then ra n else sa (n - 9)) _ _ s s.heap
        rw [if_pos hn]
        exact (hra n hn).2
end
section
/-! what a run comes to: zW (from a place of a body), zT (of a call) -/
def zW (σ : Nat → Nat × (Nat → Int32)) (d j pc : Nat) (lv : zLv) (st : List Value) (M : zMem) (P : zO → zMem → Prop) : Prop := ∃ o M', zEv σ d j pc lv st M o M' ∧ P o M'
def zT (σ : Nat → Nat × (Nat → Int32)) (d j : Nat) (as : List Value) (M : zMem) (P : zO → zMem → Prop) : Prop := zW σ d j 0 (zarg j as) [] M P
section ZWP
variable {σ : Nat → Nat × (Nat → Int32)} {d j pc : Nat} {lv : zLv} {st : List Value} {M : zMem} {P : zO → zMem → Prop}
theorem zW.mono {P' : zO → zMem → Prop} (h : zW σ d j pc lv st M P) (hp : ∀ o M', P o M' → P' o M') : zW σ d j pc lv st M P' := by
  obtain ⟨o, M', h1, h2⟩ := h
  exact ⟨o, M', h1, hp o M' h2⟩
theorem zT.mono {as : List Value} {P' : zO → zMem → Prop} (h : zT σ d j as M P) (hp : ∀ o M', P o M' → P' o M') : zT σ d j as M P' := zW.mono h hp
/-- a pure step -/
theorem zwP {i : Instr} {len pc' : Nat} {lv' : zLv} {st' : List Value} (hf : zfe j pc = some (i, len)) (hp : zP (j / 200) i pc lv st = some (pc', lv', st')) (k : zW σ d j pc' lv' st' M P) : zW σ d j pc lv st M P := by
  obtain ⟨o, M', h1, h2⟩ := k
  exact ⟨o, M', zeP hf hp h1, h2⟩
/-- a constant -/
theorem zwK {i : Instr} {len pc' : Nat} {v w : Int32} (hf : zfe j pc = some (i, len)) (hp : zP (j / 200) i pc lv st = some (pc', lv, .int w :: st)) (hv : w = v) (k : zW σ d j pc' lv (.int v :: st) M P) : zW σ d j pc lv st M P := by
  subst hv
  exact zwP hf hp k
/-- a memory step -/
theorem zwS {i : Instr} {len pc' : Nat} {st' : List Value} {M1 : zMem} (hf : zfe j pc = some (i, len)) (hp : zP (j / 200) i pc lv st = none) (hs : zS σ (j / 200) (zini j) i pc st M = some (pc', st', M1)) (k : zW σ d j pc' lv st' M1 P) : zW σ d j pc lv st M P := by
  obtain ⟨o, M', h1, h2⟩ := k
  exact ⟨o, M', zeS hf hp hs h1, h2⟩
/-- a return -/
theorem zwR {i : Instr} {len : Nat} {v : Option Value} (hf : zfe j pc = some (i, len)) (hp : zP (j / 200) i pc lv st = none) (hs : zS σ (j / 200) (zini j) i pc st M = none) (hr : zret j i st = some v) (k : P (.inl v) M) : zW σ d j pc lv st M P := ⟨_, _, zeR hf hp hs hr, k⟩
/-- a throw -/
theorem zwT {i : Instr} {len e0 : Nat} (hf : zfe j pc = some (i, len)) (hp : zP (j / 200) i pc lv st = none) (hs : zS σ (j / 200) (zini j) i pc st M = none) (hr : zret j i st = none) (ht : zthr j pc = some e0) (hc : (Nat.ble (zsum st) 8 && znoH j) = true) (k : P (.inr e0) (zthM M)) : zW σ d j pc lv st M P := ⟨_, _, zeT hf hp hs hr ht hc, k⟩
/-- a call that returns -/
theorem zwC {i : Instr} {len j' : Nat} {as rest : List Value} {P1 : zO → zMem → Prop} (hf : zfe j pc = some (i, len)) (hp : zP (j / 200) i pc lv st = none) (hs : zS σ (j / 200) (zini j) i pc st M = none) (hr : zret j i st = none) (ht : zthr j pc = none) (hc : zcall (j / 200) i st M = some (j', as, rest)) (h1 : zT σ d j' as M P1)
    (k : ∀ v M1, P1 (.inl v) M1 → zW σ (d + 1) j (pc + 3) lv (v.toList ++ rest) M1 P) (kx : ∀ e0 M1, P1 (.inr e0) M1 → (zhnd j pc e0 = none ∧ znoH j = true ∧ P (.inr e0) M1) ∨ ∃ a, zhnd j pc e0 = some a ∧ P (.inl (some (.int (Int32.ofNat a)))) M1) : zW σ (d + 1) j pc lv st M P := by
  obtain ⟨o, M1, h2, h3⟩ := h1
  cases o with
  | inl v =>
    obtain ⟨o, M', h4, h5⟩ := k v M1 h3
    exact ⟨o, M', zeC hf hp hs hr ht hc h2 h4, h5⟩
  | inr e0 =>
    rcases kx e0 M1 h3 with ⟨a, b, c⟩ | ⟨a, b, c⟩
    · exact ⟨_, _, zeX hf hp hs hr ht hc h2 a b, c⟩
    · exact ⟨_, _, zeH hf hp hs hr ht hc h2 b, c⟩
/-- Math.max, Math.min -/
theorem zwM {i : Instr} {len pc' : Nat} {st' : List Value} (hf : zfe j pc = some (i, len)) (hp : zP (j / 200) i pc lv st = none) (hs : zS σ (j / 200) (zini j) i pc st M = none) (hr : zret j i st = none) (ht : zthr j pc = none) (hc : zcall (j / 200) i st M = none) (hm : zmath (j / 200) i pc st = some (pc', st')) (k : zW σ d j pc' lv st' M P) : zW σ d j pc lv st M P := by
  obtain ⟨o, M', h1, h2⟩ := k
  exact ⟨o, M', zeM hf hp hs hr ht hc hm h1, h2⟩
/-- two ways: a test of one int, of two -/
theorem zwB1 {k : ClassFile.Cond} {off : Int} {t : Nat} {x : Int32} (hf : zfe j pc = some (.ifCond k off, 3)) (ht : ztg pc off = some t) (kt : zc1 k x = true → zW σ d j t lv st M P) (kf : zc1 k x = false → zW σ d j (pc + 3) lv st M P) : zW σ d j pc lv (.int x :: st) M P := by
  cases hb : zc1 k x with
  | true => exact zwP (pc' := t) hf (by simp only [zP, zbr, ht, hb, Option.map_some, cond_true]) (kt hb)
  | false => exact zwP (pc' := pc + 3) hf (by simp only [zP, zbr, ht, hb, Option.map_some, cond_false]) (kf hb)
theorem zwB2 {k : ClassFile.Cond} {off : Int} {t : Nat} {x y : Int32} (hf : zfe j pc = some (.if_icmp k off, 3)) (ht : ztg pc off = some t) (kt : zc2 k x y = true → zW σ d j t lv st M P) (kf : zc2 k x y = false → zW σ d j (pc + 3) lv st M P) : zW σ d j pc lv (.int y :: .int x :: st) M P := by
  cases hb : zc2 k x y with
  | true => exact zwP (pc' := t) hf (by simp only [zP, zbr, ht, hb, Option.map_some, cond_true]) (kt hb)
  | false => exact zwP (pc' := pc + 3) hf (by simp only [zP, zbr, ht, hb, Option.map_some, cond_false]) (kf hb)
end ZWP
/-! runs that look at no row of the start: for the constructors, by the kernel -/
def zS0 (c : Nat) (ini : Bool) (i : Instr) (pc : Nat) (st : List Value) (M : zMem) : Option (Nat × List Value × zMem) := match i with
  | .iaload => match st with
    | .int _ :: .ref a :: _ => bif Nat.blt a 1000 then zS (fun _ => (0, fun _ => 0)) c ini .iaload pc st M else none
    | _ => none
  | .arraylength => match st with
    | .ref a :: _ => bif Nat.blt a 1000 then zS (fun _ => (0, fun _ => 0)) c ini .arraylength pc st M else none
    | _ => none
  | i => zS (fun _ => (0, fun _ => 0)) c ini i pc st M
theorem zS0_up {c : Nat} {ini : Bool} {i : Instr} {pc : Nat} {st : List Value} {M : zMem} {r : Nat × List Value × zMem} (h : zS0 c ini i pc st M = some r) (σ : Nat → Nat × (Nat → Int32)) : zS σ c ini i pc st M = some r := by
  cases i
  case iaload =>
    simp only [zS0] at h
    split at h
    · rename_i x a t
      rw [cond_eq_ite] at h
      split at h
      · rename_i ha
        simp only [zS, ziald, ha, cond_true] at h ⊢
        exact h
      · cases h
    · cases h
  case arraylength =>
    simp only [zS0] at h
    split at h
    · rename_i a t
      rw [cond_eq_ite] at h
      split at h
      · rename_i ha
        simp only [zS, zalen, ha, cond_true] at h ⊢
        exact h
      · cases h
    · cases h
  all_goals exact h
def zisC (i : Instr) : Bool := match i with
  | .invokevirtual _ => true
  | .invokespecial _ => true
  | _ => false
def zisR (i : Instr) : Bool := match i with
  | .ireturn => true
  | .areturn => true
  | .return_ => true
  | _ => false
def zrun0 : Nat → Nat → Nat → Nat → zLv → List Value → zMem → Option (Option Value × zMem)
  | 0, _, _, _, _, _, _ => none
  | n + 1, d, j, pc, lv, st, M => match zfe j pc with
    | none => none
    | some (i, _) => match zP (j / 200) i pc lv st with
      | some (pc', lv', st') => zrun0 n d j pc' lv' st' M
      | none => match zS0 (j / 200) (zini j) i pc st M with
        | some (pc', st', M') => zrun0 n d j pc' lv st' M'
        | none => match zret j i st with
          | some v => bif zisR i then some (v, M) else none
          | none => match zthr j pc with
            | some _ => none
            | none => bif zisC i then (match zcall (j / 200) i st M with
                | none => none
                | some (j', as, rest) => match d with
                  | 0 => none
                  | d' + 1 => match zrun0 n d' j' 0 (zarg j' as) [] M with
                    | none => none
                    | some (v, M') => zrun0 n (d' + 1) j (pc + 3) lv (v.toList ++ rest) M') else none
theorem zS_of0 {c : Nat} {ini : Bool} {i : Instr} {pc : Nat} {st : List Value} {M : zMem} (σ : Nat → Nat × (Nat → Int32)) (h : zS0 c ini i pc st M = none) (hi : i ≠ .iaload) (hi2 : i ≠ .arraylength) : zS σ c ini i pc st M = none := by
  cases i
  case iaload => exact absurd rfl hi
  case arraylength => exact absurd rfl hi2
  all_goals exact h
theorem zrun0_up (σ : Nat → Nat × (Nat → Int32)) : ∀ (n d j pc : Nat) (lv : zLv) (st : List Value) (M : zMem) (v : Option Value) (M' : zMem), zrun0 n d j pc lv st M = some (v, M') → zrun σ n d j pc lv st M = some (.inl v, M') := by
  intro n
  induction n with
  | zero => intro d j pc lv st M v M' h; cases h
  | succ n ih =>
    intro d j pc lv st M v M' h
    rw [zrun0] at h
    rw [zrun]
    cases hf : zfe j pc with
    | none => simp only [hf] at h; cases h
    | some x =>
      obtain ⟨i, len⟩ := x
      simp only [hf] at h ⊢
      cases hp : zP (j / 200) i pc lv st with
      | some y =>
        obtain ⟨a, b, c⟩ := y
        simp only [hp] at h ⊢
        exact ih _ _ _ _ _ _ _ _ h
      | none =>
        simp only [hp] at h ⊢
        cases hs : zS0 (j / 200) (zini j) i pc st M with
        | some y =>
          obtain ⟨a, b, c⟩ := y
          simp only [hs] at h
          simp only [zS0_up hs σ]
          exact ih _ _ _ _ _ _ _ _ h
        | none =>
          simp only [hs] at h
          cases hr : zret j i st with
          | some w =>
            simp only [hr] at h
            cases hb : zisR i with
            | false => rw [hb, cond_false] at h; cases h
            | true =>
              rw [hb, cond_true] at h
              cases h
              rw [zS_of0 σ hs (fun e => by rw [e] at hb; cases hb) (fun e => by rw [e] at hb; cases hb)]
          | none =>
            simp only [hr] at h
            cases ht : zthr j pc with
            | some e0 => simp only [ht] at h; cases h
            | none =>
              simp only [ht] at h
              cases hb : zisC i with
              | false => rw [hb, cond_false] at h; cases h
              | true =>
                rw [hb, cond_true] at h
                rw [zS_of0 σ hs (fun e => by rw [e] at hb; cases hb) (fun e => by rw [e] at hb; cases hb)]
                simp only []
                cases hc : zcall (j / 200) i st M with
                | none => simp only [hc] at h; cases h
                | some y =>
                  obtain ⟨j', as, rest⟩ := y
                  simp only [hc] at h ⊢
                  cases d with
                  | zero => simp only at h; cases h
                  | succ d =>
                    simp only at h ⊢
                    cases hz : zrun0 n d j' 0 (zarg j' as) [] M with
                    | none => simp only [hz] at h; cases h
                    | some z =>
                      obtain ⟨w, M1⟩ := z
                      simp only [hz] at h
                      simp only [ih _ _ _ _ _ _ _ _ hz]
                      exact ih _ _ _ _ _ _ _ _ h
end
section
/-! the claim's walk out of one run of the small machine -/
def zMe : zMem := ([], fun _ _ => 0, fun _ _ => 0, true, 0, 0)
theorem zlaw_ent : zent 2024 = some (yL_law, cL_law, 7, some .boolean, [], zk_10_24) := rfl
theorem zhnd_law (pc e0 : Nat) : zhnd 2024 pc e0 = none := by
  unfold zhnd
  have h : zhd.find? (fun t => t.1 == 2024 && t.2.1 == pc && t.2.2.1 == e0) = none := by
    rw [List.find?_eq_none]
    intro t ht h
    simp only [Bool.and_eq_true, beq_iff_eq] at h
    have h2 := List.all_eq_true.mp (show zhd.all (fun t => t.1 != 2024) = true by decide +kernel) t ht
    rw [h.1.1] at h2
    cases h2
  rw [h]; rfl
theorem zret_law {i : Instr} {st : List Value} (h : zret 2024 i st = some (some (.int 1))) : i = .ireturn ∧ st = [.int 1] := by
  unfold zret at h
  rw [zlaw_ent] at h
  dsimp only at h
  split at h
  · split at h
    · rename_i x
      split at h
      · cases h; exact ⟨rfl, rfl⟩
      · cases h
    · cases h
  · split at h
    · cases h
    · cases h
  · split at h
    · cases h
    · cases h
  · cases h
theorem zclose {p : Program} {e : Env} {s : State} {m : MethodId} {below : List Frame} {meth : Method} {c : Code} (l : Launch) (hflags : l.flags = flags0) {b L : Nat} {xs : Nat → Int32} (C0 : lw_At p s m meth c b L xs) {M' : zMem} (hev : zEv (zsig L xs) 20 2024 0 (zarg 2024 [.ref 1000]) [] zMe (.inl (some (.int 1))) M') (hn : M'.2.2.2.2.1 ≤ room_1.cells) (hs : M'.2.2.2.2.2 ≤ room_1.slots) :
    W p l e room_1 s m #[Value.ref b] below meth c s.heap [] 0 0 (lw_Z below #[Value.ref b] s) (entryFrame m ([Value.ref b] : List Value).toArray 7) := by
  obtain ⟨G, B, hNC, hbase, hb0⟩ := zstart C0
  obtain ⟨n, hrun⟩ := hev
  obtain ⟨hx, hb, hr, hml, hown, hts, hX, hbl, hlocks, hgv⟩ := C0
  have hl : l.stackTraces = false := by
    unfold Launch.stackTraces
    rw [hflags]
    decide +kernel
  obtain ⟨ls, he, hlv, hnl⟩ := zentry (G := G) (j := 2024) zlaw_ent (as := [.ref 1000]) (fun v hv => by cases List.mem_singleton.mp hv; rfl) (by decide) m
  have e1 : (([.ref 1000] : List Value).map (zcv G)).toArray = #[Value.ref b] := by
    show #[Value.ref (zad G 1000)] = #[Value.ref b]
    rw [hb0]
  rw [e1] at he
  show W p l e room_1 s m #[Value.ref b] below meth c s.heap [] 0 0 (lw_Z below #[Value.ref b] s) (entryFrame m #[Value.ref b] 7)
  have he' : entryFrame m #[Value.ref b] 7 = F0 m 0 ls [] := he
  rw [he']
  refine zsound hl n 20 2024 0 _ [] zMe _ M' hrun p e room_1 s m #[Value.ref b] below meth c s.heap [] 0 0 ls _ _ zlaw_ent B hNC hml hr hlocks (fun h => absurd h (by decide)) (Nat.le_of_ble_eq_true rfl) (Nat.le_of_ble_eq_true rfl) hlv hnl ⟨(fun k q h => by simp [zw, zMe] at h), Nat.zero_le _⟩ va_S.rf (fun _ => ?_) ?_ ?_ (Or.inr ⟨⟨_, rfl⟩, fun pc e0 => zhnd_law pc e0⟩) ?_
  · show s.heap.size + 0 ≤ G.2.2.1 + 0
    rw [hbase]; exact Nat.le_refl _
  · show 0 + M'.2.2.2.2.1 ≤ room_1.cells + 0
    rw [Nat.zero_add]; exact hn
  · show 0 + M'.2.2.2.2.2 ≤ room_1.slots + 0
    rw [Nat.zero_add]; exact hs
  · intro v hv pc' i len st' H' locs' cells' slots' ls' hfe hret hR' hS' hc' hs'
    cases hv
    obtain ⟨rfl, rfl⟩ := zret_law hret
    obtain ⟨hd, hlen⟩ := zfe_ok hfe zlaw_ent
    obtain rfl := zlk hlen rfl
    refine W.widen (k := room_1.cells) (n := room_1.slots) hc' hs' (va_forget (fun q hq => ?_) (lw_ret hx hb hr hlocks hd))
    have h9 : G.2.2.1 ≤ q.base := hS'.2.2 q hq
    rw [hbase] at h9
    exact h9
end
section
/-! the constructors, by the kernel (written by program: wip/p1/gen29.py) -/
def zS1 : List (Nat × Nat × List Nat) := [(8, 0, [2, 44, 86, 0, 128, 0, 0, 129, 130, 132]), (3, 0, [3, 4, 5, 6, 11, 0, 0, 0, 0, 0, 40, 41, 0, 42]), (10, 32, []), (10, 32, []), (10, 9, []), (12, 4, [7, 8, 9, 10]), (1, 0, [0, 0, 0, 0]), (1, 0, [0, 0, 0, 0]), (1, 0, [0, 0, 0, 0]), (1, 0, [0, 0, 0, 0]), (13, 4, [12, 19, 26, 33]), (6, 0, [13, 14, 0, 0, 0, 0, 0, 0, 15, 16]), (10, 24, []), (10, 24, []), (10, 5, []), (0, 0, [0, 0, 0, 0, 17, 0, 0, 0, 18, 0]), (10, 4, []), (10, 32, []), (6, 0, [20, 21, 0, 0, 0, 0, 0, 0, 22, 23]), (10, 24, []), (10, 24, []), (10, 5, []), (0, 0, [0, 0, 0, 0, 24, 0, 0, 0, 25, 0]), (10, 4, []), (10, 32, []), (6, 0, [27, 28, 0, 0, 0, 0, 0, 0, 29, 30]), (10, 24, []), (10, 24, []), (10, 5, []), (0, 0, [0, 0, 0, 0, 31, 0, 0, 0, 32, 0]), (10, 4, []), (10, 32, []), (6, 0, [34, 35, 0, 0, 0, 0, 0, 0, 36, 37]), (10, 24, []), (10, 24, []), (10, 5, []), (0, 0, [0, 0, 0, 0, 38, 0, 0, 0, 39, 0]), (10, 4, []), (10, 32, []), (10, 20, []), (10, 20, []), (2, 0, [43, 0, 0]), (10, 240, []), (3, 0, [45, 46, 47, 48, 53, 0, 0, 0, 0, 0, 82, 83, 0, 84]), (10, 32, []), (10, 32, []), (10, 9, []), (12, 4, [49, 50, 51, 52]), (1, 0, [0, 0, 0, 0]), (1, 0, [0, 0, 0, 0]), (1, 0, [0, 0, 0, 0]), (1, 0, [0, 0, 0, 0]), (13, 4, [54, 61, 68, 75]), (6, 0, [55, 56, 0, 0, 0, 0, 0, 0, 57, 58]), (10, 24, []), (10, 24, []), (10, 5, []), (0, 0, [0, 0, 0, 0, 59, 0, 0, 0, 60, 0]), (10, 4, []), (10, 32, []), (6, 0, [62, 63, 0, 0, 0, 0, 0, 0, 64, 65]), (10, 24, []), (10, 24, []), (10, 5, []), (0, 0, [0, 0, 0, 0, 66, 0, 0, 0, 67, 0]), (10, 4, []), (10, 32, []), (6, 0, [69, 70, 0, 0, 0, 0, 0, 0, 71, 72]), (10, 24, []), (10, 24, []), (10, 5, []), (0, 0, [0, 0, 0, 0, 73, 0, 0, 0, 74, 0]), (10, 4, []), (10, 32, []), (6, 0, [76, 77, 0, 0, 0, 0, 0, 0, 78, 79]), (10, 24, []), (10, 24, []), (10, 5, []), (0, 0, [0, 0, 0, 0, 80, 0, 0, 0, 81, 0]), (10, 4, []), (10, 32, []), (10, 20, []), (10, 20, []), (2, 0, [85, 0, 0]), (10, 240, []), (3, 0, [87, 88, 89, 90, 95, 0, 0, 0, 0, 0, 124, 125, 0, 126]), (10, 32, []), (10, 32, []), (10, 9, []), (12, 4, [91, 92, 93, 94]), (1, 0, [0, 0, 0, 0]), (1, 0, [0, 0, 0, 0]), (1, 0, [0, 0, 0, 0]), (1, 0, [0, 0, 0, 0]), (13, 4, [96, 103, 110, 117]), (6, 0, [97, 98, 0, 0, 0, 0, 0, 0, 99, 100]), (10, 24, []), (10, 24, []), (10, 5, []), (0, 0, [0, 0, 0, 0, 101, 0, 0, 0, 102, 0]), (10, 4, []), (10, 32, []), (6, 0, [104, 105, 0, 0, 0, 0, 0, 0, 106, 107]), (10, 24, []), (10, 24, []), (10, 5, []), (0, 0, [0, 0, 0, 0, 108, 0, 0, 0, 109, 0]), (10, 4, []), (10, 32, []), (6, 0, [111, 112, 0, 0, 0, 0, 0, 0, 113, 114]), (10, 24, []), (10, 24, []), (10, 5, []), (0, 0, [0, 0, 0, 0, 115, 0, 0, 0, 116, 0]), (10, 4, []), (10, 32, []), (6, 0, [118, 119, 0, 0, 0, 0, 0, 0, 120, 121]), (10, 24, []), (10, 24, []), (10, 5, []), (0, 0, [0, 0, 0, 0, 122, 0, 0, 0, 123, 0]), (10, 4, []), (10, 32, []), (10, 20, []), (10, 20, []), (2, 0, [127, 0, 0]), (10, 240, []), (11, 400, []), (5, 0, [128, 44, 0, 0, 0]), (7, 0, [131, 0]), (11, 400, []), (4, 0, [2, 133, 134, 135, 136, 137, 0, 0, 0, 0]), (10, 32, []), (10, 320, []), (10, 4, []), (10, 4, []), (10, 10, []), (9, 0, [0, 139, 140, 141, 0, 0, 142, 0, 0, 0, 0, 0, 143, 144, 145, 146, 0]), (10, 788, []), (10, 788, []), (10, 788, []), (11, 400, []), (10, 5, []), (10, 891, []), (10, 10, []), (11, 400, []), (14, 1, [])]
def zm0 : List ((Nat × Nat) × Int32) := [((0, 6), (-1)), ((1, 8), (-1)), ((1, 9), 1), ((4, 0), 2), ((4, 1), 3), ((4, 2), 2), ((4, 3), 4), ((4, 4), 8), ((4, 5), 1), ((4, 6), 4), ((4, 7), 2), ((6, 0), 16), ((6, 1), 8), ((7, 0), 20), ((7, 1), 8), ((8, 0), 24), ((8, 1), 8), ((9, 0), 28), ((9, 1), 8), ((43, 8), (-1)), ((43, 9), 1), ((46, 0), 2), ((46, 1), 3), ((46, 2), 2), ((46, 3), 4), ((46, 4), 8), ((46, 5), 1), ((46, 6), 4), ((46, 7), 2), ((48, 0), 16), ((48, 1), 8), ((49, 0), 20), ((49, 1), 8), ((50, 0), 24), ((50, 1), 8), ((51, 0), 28), ((51, 1), 8), ((85, 8), (-1)), ((85, 9), 1), ((88, 0), 2), ((88, 1), 3), ((88, 2), 2), ((88, 3), 4), ((88, 4), 8), ((88, 5), 1), ((88, 6), 4), ((88, 7), 2), ((90, 0), 16), ((90, 1), 8), ((91, 0), 20), ((91, 1), 8), ((92, 0), 24), ((92, 1), 8), ((93, 0), 28), ((93, 1), 8), ((137, 11), (-1)), ((138, 0), 2), ((138, 1), 3), ((138, 2), 2), ((138, 3), 4), ((138, 4), 8), ((138, 5), 1), ((138, 6), 4), ((138, 7), 2), ((138, 12), (-1)), ((138, 13), 1), ((138, 16), 16), ((138, 17), 20), ((138, 18), 24), ((138, 19), 28), ((138, 20), 8), ((138, 21), 8), ((138, 22), 8), ((138, 23), 8)]
def zmv (i k : Nat) : Int32 := (zm0.lookup (i, k)).getD 0
def zsz1 (q : Nat × Nat × List Nat) : Nat := if q.1 < 10 then zN q.1 else q.2.1
def zA1 : zMem := zpush (8, 0, List.replicate (zN 8) 0) (zN 8) zMe
def zR1 : Option (Option Value × zMem) := zrun0 3000 10 1600 0 (zarg 1600 [.ref 0]) [] zA1
def zM1 : zMem := match zR1 with
  | some (_, M) => M
  | none => zMe
theorem zR1_ok : (match zR1 with | some (none, _) => true | _ => false) = true := by decide +kernel
theorem zR1_eq : zR1 = some (none, zM1) := by
  have h := zR1_ok
  unfold zM1
  cases hr : zR1 with
  | none => rw [hr] at h; cases h
  | some x =>
    obtain ⟨v, M⟩ := x
    rw [hr] at h
    cases v with
    | none => rfl
    | some v => cases h
theorem zM1_len : zM1.1.length = 137 ∧ zM1.2.2.2.1 = true := by decide +kernel
def zA2 : zMem := zpush (9, 0, List.replicate (zN 9) 0) (zN 9) zM1
def zR2 : Option (Option Value × zMem) := zrun0 3000 10 1805 0 (zarg 1805 [.ref 137]) [] zA2
def zM2 : zMem := match zR2 with
  | some (_, M) => M
  | none => zMe
theorem zR2_ok : (match zR2 with | some (none, _) => true | _ => false) = true := by decide +kernel
theorem zR2_eq : zR2 = some (none, zM2) := by
  have h := zR2_ok
  unfold zM2
  cases hr : zR2 with
  | none => rw [hr] at h; cases h
  | some x =>
    obtain ⟨v, M⟩ := x
    rw [hr] at h
    cases v with
    | none => rfl
    | some v => cases h
theorem zM2_len : zM2.1.length = 146 ∧ zM2.2.2.2.1 = true := by decide +kernel
def zM3 : zMem := zpush (14, 1, []) 1 zM2
theorem zM3_S : zM3.1 = zS1 := by decide +kernel
theorem zM3_n : zM3.2.2.2.1 = true ∧ zM3.2.2.2.2.1 = 147 ∧ zM3.2.2.2.2.2 = 7775 := by decide +kernel
end
section
def zig_0 : List (Nat × Nat × Nat) := [(0, 0, 10), (1, 0, 14), (2, 0, 32), (3, 0, 32), (4, 0, 9), (6, 0, 4), (7, 0, 4), (8, 0, 4), (9, 0, 4), (11, 0, 10), (12, 0, 24), (13, 0, 24), (14, 0, 5), (15, 0, 10), (16, 0, 4), (17, 0, 32), (18, 0, 10), (19, 0, 24), (20, 0, 24), (21, 0, 5), (22, 0, 10), (23, 0, 4)]
theorem zi_0 : zig_0.all (fun e => (List.range e.2.2).all (fun k => decide (zM3.2.1 e.1 (e.2.1 + k) = zmv e.1 (e.2.1 + k)))) = true := by decide +kernel
def zig_1 : List (Nat × Nat × Nat) := [(24, 0, 32), (25, 0, 10), (26, 0, 24), (27, 0, 24), (28, 0, 5), (29, 0, 10), (30, 0, 4), (31, 0, 32), (32, 0, 10), (33, 0, 24), (34, 0, 24), (35, 0, 5), (36, 0, 10), (37, 0, 4), (38, 0, 32), (39, 0, 20), (40, 0, 20), (41, 0, 3)]
theorem zi_1 : zig_1.all (fun e => (List.range e.2.2).all (fun k => decide (zM3.2.1 e.1 (e.2.1 + k) = zmv e.1 (e.2.1 + k)))) = true := by decide +kernel
def zig_2 : List (Nat × Nat × Nat) := [(42, 0, 200), (42, 200, 40), (128, 0, 5), (129, 0, 2), (131, 0, 10), (132, 0, 32), (134, 0, 4), (135, 0, 4), (136, 0, 10), (137, 0, 17)]
theorem zi_2 : zig_2.all (fun e => (List.range e.2.2).all (fun k => decide (zM3.2.1 e.1 (e.2.1 + k) = zmv e.1 (e.2.1 + k)))) = true := by decide +kernel
def zig_3 : List (Nat × Nat × Nat) := [(138, 0, 200)]
theorem zi_3 : zig_3.all (fun e => (List.range e.2.2).all (fun k => decide (zM3.2.1 e.1 (e.2.1 + k) = zmv e.1 (e.2.1 + k)))) = true := by decide +kernel
def zig_4 : List (Nat × Nat × Nat) := [(138, 200, 200)]
theorem zi_4 : zig_4.all (fun e => (List.range e.2.2).all (fun k => decide (zM3.2.1 e.1 (e.2.1 + k) = zmv e.1 (e.2.1 + k)))) = true := by decide +kernel
def zig_5 : List (Nat × Nat × Nat) := [(138, 400, 200)]
theorem zi_5 : zig_5.all (fun e => (List.range e.2.2).all (fun k => decide (zM3.2.1 e.1 (e.2.1 + k) = zmv e.1 (e.2.1 + k)))) = true := by decide +kernel
def zig_6 : List (Nat × Nat × Nat) := [(138, 600, 188), (142, 0, 5), (144, 0, 10)]
theorem zi_6 : zig_6.all (fun e => (List.range e.2.2).all (fun k => decide (zM3.2.1 e.1 (e.2.1 + k) = zmv e.1 (e.2.1 + k)))) = true := by decide +kernel
end
section
/-! memory steps over an explicit memory -/
section ZMR
variable {σ : Nat → Nat × (Nat → Int32)} {d j pc : Nat} {lv : zLv} {r : List Value} {S : List (Nat × Nat × List Nat)} {m : Nat → Nat → Int32} {lf : Nat → Nat → Int64} {z : Bool × Nat × Nat} {P : zO → zMem → Prop}
theorem zmGI {idx ci k pl a n t : Nat} {rs : List Nat} {f : Bool} (hf : zfe j pc = some (.getfield idx, 3)) (hl : (zfp (j / 200)).lookup idx = some (ci, k, pl)) (hS : S[a]? = some (ci, n, rs)) (ht : (zft ci)[k]? = some (t, f)) (h2 : t ≠ 2) (kk : zW σ d j (pc + 3) lv (.int (m a k) :: r) (S, m, lf, z) P) : zW σ d j pc lv (.ref a :: r) (S, m, lf, z) P := by
  refine zwS hf rfl ?_ kk
  simp only [zS, zgetf, hl, hS, beq_self_eq_true, cond_true, ht]
  split
  · rename_i h; cases h; exact absurd rfl h2
  · rfl
  · rename_i h; cases h
theorem zmGR {idx ci k pl a n b : Nat} {rs : List Nat} {f : Bool} (hf : zfe j pc = some (.getfield idx, 3)) (hl : (zfp (j / 200)).lookup idx = some (ci, k, pl)) (hS : S[a]? = some (ci, n, rs)) (ht : (zft ci)[k]? = some (2, f)) (hb : zrv rs k = some b) (kk : zW σ d j (pc + 3) lv (.ref b :: r) (S, m, lf, z) P) : zW σ d j pc lv (.ref a :: r) (S, m, lf, z) P := by
  refine zwS hf rfl ?_ kk
  simp only [zS, zgetf, hl, hS, beq_self_eq_true, cond_true, ht, hb]
theorem zmPI {idx ci k pl a n : Nat} {rs : List Nat} {x : Int32} (hf : zfe j pc = some (.putfield idx, 3)) (hl : (zfp (j / 200)).lookup idx = some (ci, k, pl)) (hS : S[a]? = some (ci, n, rs)) (ht : (zft ci)[k]? = some (0, false)) (kk : zW σ d j (pc + 3) lv r (S, zm2 m a k x, lf, z) P) : zW σ d j pc lv (.int x :: .ref a :: r) (S, m, lf, z) P := by
  refine zwS hf rfl ?_ kk
  simp only [zS, zputf, hl, hS, beq_self_eq_true, cond_true, ht]
theorem zmPB {idx ci k pl a n : Nat} {rs : List Nat} {x : Int32} (hf : zfe j pc = some (.putfield idx, 3)) (hl : (zfp (j / 200)).lookup idx = some (ci, k, pl)) (hS : S[a]? = some (ci, n, rs)) (ht : (zft ci)[k]? = some (1, false)) (hx : x = 0 ∨ x = 1) (kk : zW σ d j (pc + 3) lv r (S, zm2 m a k x, lf, z) P) : zW σ d j pc lv (.int x :: .ref a :: r) (S, m, lf, z) P := by
  refine zwS hf rfl ?_ kk
  simp only [zS, zputf, hl, hS, beq_self_eq_true, cond_true, ht, if_pos hx]
theorem zmAL {a n k : Nat} {rs : List Nat} {i : Int32} (hf : zfe j pc = some (.iaload, 1)) (ha : Nat.blt a 1000 = true) (hS : S[a]? = some (10, n, rs)) (hi : zoutB i n = false) (hk : i.toNatClampNeg = k) (kk : zW σ d j (pc + 1) lv (.int (m a k) :: r) (S, m, lf, z) P) : zW σ d j pc lv (.int i :: .ref a :: r) (S, m, lf, z) P := by
  subst hk
  refine zwS hf rfl ?_ kk
  simp only [zS, ziald, ha, cond_true, hS, beq_self_eq_true, hi, Bool.not_false, Bool.and_self]
theorem zmAS {a n k : Nat} {rs : List Nat} {i x : Int32} (hf : zfe j pc = some (.iastore, 1)) (hS : S[a]? = some (10, n, rs)) (hi : zoutB i n = false) (hk : i.toNatClampNeg = k) (kk : zW σ d j (pc + 1) lv r (S, zm2 m a k x, lf, z) P) : zW σ d j pc lv (.int x :: .int i :: .ref a :: r) (S, m, lf, z) P := by
  subst hk
  refine zwS hf rfl ?_ kk
  simp only [zS, ziast, hS, beq_self_eq_true, hi, Bool.not_false, Bool.and_self, cond_true]
theorem zmRL {a n b : Nat} {kd : Nat} {rs : List Nat} {i : Int32} (hf : zfe j pc = some (.aaload, 1)) (hS : S[a]? = some (kd, n, rs)) (hkd : (kd == 12 || kd == 13) = true) (hi : zoutB i n = false) (hb : zrv rs i.toNatClampNeg = some b) (kk : zW σ d j (pc + 1) lv (.ref b :: r) (S, m, lf, z) P) : zW σ d j pc lv (.int i :: .ref a :: r) (S, m, lf, z) P := by
  refine zwS hf rfl ?_ kk
  simp only [zS, zaald, hS, hkd, hi, Bool.not_false, Bool.and_self, cond_true, hb]
end ZMR
end
section
/-! an abstract machine over the small one: an int is known, or one of the script's (within bounds), or any -/
abbrev zyV : Type := Value ⊕ Option Nat
abbrev zyLv : Type := List (Option zyV)
abbrev zyE : Type := List (Nat × Int × Int)
abbrev zyM : Type := List (Nat × Nat × List Nat) × (Nat → Nat → zyV) × (Nat → Nat → Option Int64) × Bool × Nat × Nat
abbrev zyO : Type := Option zyV ⊕ Nat
def zyiv (E : zyE) (k : Nat) : Int × Int := match E with
  | [] => (-2147483648, 2147483647)
  | q :: r => bif Nat.beq q.1 k then q.2 else zyiv r k
def zyres (E : zyE) (v : zyV) : zyV := match v with
  | .inr (some k) => if (zyiv E k).1 = (zyiv E k).2 then .inl (.int (Int32.ofInt (zyiv E k).1)) else .inr (some k)
  | v => v
def zyun (E : zyE) : Nat → List zyV → Option (List Value × List zyV)
  | 0, st => some ([], st)
  | _ + 1, [] => none
  | n + 1, v :: r => match zyres E v with
    | .inl x => match zyun E n r with
      | some (vs, r') => some (x :: vs, r')
      | none => none
    | .inr _ => none
def zyI (v : zyV) : Bool := match v with
  | .inl (.int _) => true
  | .inr _ => true
  | _ => false
def zyA (v : zyV) : Bool := match v with
  | .inl (.ref _) => true
  | _ => false
def zycat (v : zyV) : Nat := match v with
  | .inl x => x.category
  | .inr _ => 1
def zysum (st : List zyV) : Nat := (st.map zycat).sum
def zyrg (E : zyE) (v : zyV) : Int × Int := match v with
  | .inl (.int x) => (x.toInt, x.toInt)
  | .inr (some k) => zyiv E k
  | _ => (-2147483648, 2147483647)
/-- how a test comes out for all ints within bounds -/
def zydc (k : ClassFile.Cond) (x y : Int × Int) : Option Bool := match k with
  | .eq => if x.2 < y.1 ∨ y.2 < x.1 then some false else none
  | .ne => if x.2 < y.1 ∨ y.2 < x.1 then some true else none
  | .lt => if x.2 < y.1 then some true else if y.2 ≤ x.1 then some false else none
  | .ge => if y.2 ≤ x.1 then some true else if x.2 < y.1 then some false else none
  | .gt => if y.2 < x.1 then some true else if x.2 ≤ y.1 then some false else none
  | .le => if x.2 ≤ y.1 then some true else if y.2 < x.1 then some false else none
/-- how many operands, where nothing else is looked at -/
def zyar (i : Instr) : Option Nat := match i with
  | .iconst _ | .bipush _ | .sipush _ | .goto _ | .ldc _ | .ldc_w _ => some 0
  | .i2l | .i2b | .ifCond _ _ | .tableswitch _ _ _ _ | .lookupswitch _ _ => some 1
  | .iadd | .isub | .imul | .iand | .ior | .ixor | .ishl | .ishr | .iushr | .idiv | .irem | .lcmp | .if_icmp _ _ => some 2
  | _ => none
def zyld (b : Bool) (lv : zyLv) (k pc : Nat) (st : List zyV) : Option (Nat × zyLv × List zyV) := match lv[k]? with
  | some (some v) => bif (bif b then zyI v else zyA v) then some (pc, lv, v :: st) else none
  | _ => none
def zyst (b : Bool) (lv : zyLv) (k pc : Nat) (st : List zyV) : Option (Nat × zyLv × List zyV) := match st with
  | v :: r => bif (bif b then zyI v else zyA v) && Nat.blt k lv.length then some (pc, lv.set k (some v), r) else none
  | [] => none
def zytop (pc : Nat) (lv : zyLv) (st : List zyV) : Option (Nat × zyLv × List zyV) := match st with
  | v :: w :: r => bif zyI v && zyI w then some (pc + 1, lv, .inr none :: r) else none
  | _ => none
def zybr (b : Option Bool) (pc : Nat) (off : Int) (lv : zyLv) (st : List zyV) : Option (Nat × zyLv × List zyV) := match b with
  | some b => (ztg pc off).map (fun t => (bif b then t else pc + 3, lv, st))
  | none => none
def zyPs (E : zyE) (i : Instr) (pc : Nat) (lv : zyLv) (st : List zyV) : Option (Nat × zyLv × List zyV) := match i with
  | .iload_n k => zyld true lv k.val (pc + 1) st
  | .iload k => zyld true lv k (pc + 2) st
  | .aload_n k => zyld false lv k.val (pc + 1) st
  | .aload k => zyld false lv k (pc + 2) st
  | .istore_n k => zyst true lv k.val (pc + 1) st
  | .istore k => zyst true lv k (pc + 2) st
  | .astore_n k => zyst false lv k.val (pc + 1) st
  | .astore k => zyst false lv k (pc + 2) st
  | .iinc k n => match lv[k]? with
    | some (some (.inl (.int x))) => some (pc + 3, lv.set k (some (.inl (.int (x + Int32.ofInt n)))), st)
    | _ => none
  | .dup => match st with
    | v :: r => bif zyI v || zyA v then some (pc + 1, lv, v :: v :: r) else none
    | _ => none
  | .dup2 => match st with
    | v :: w :: r => bif (zyI v || zyA v) && (zyI w || zyA w) then some (pc + 1, lv, v :: w :: v :: w :: r) else none
    | _ => none
  | .pop => match st with
    | v :: r => bif zyI v || zyA v then some (pc + 1, lv, r) else none
    | _ => none
  | .iadd => zytop pc lv st
  | .isub => zytop pc lv st
  | .imul => zytop pc lv st
  | .iand => zytop pc lv st
  | .ior => zytop pc lv st
  | .ixor => zytop pc lv st
  | .ishl => zytop pc lv st
  | .ishr => zytop pc lv st
  | .iushr => zytop pc lv st
  | .i2b => match st with
    | v :: r => bif zyI v then some (pc + 1, lv, .inr none :: r) else none
    | _ => none
  | .ifCond k off => match st with
    | v :: r => bif zyI v then zybr (zydc k (zyrg E v) (0, 0)) pc off lv r else none
    | _ => none
  | .if_icmp k off => match st with
    | w :: v :: r => bif zyI v && zyI w then zybr (zydc k (zyrg E v) (zyrg E w)) pc off lv r else none
    | _ => none
  | .tableswitch dflt lo hi _ => match st with
    | v :: r => bif zyI v then (if (zyrg E v).2 < lo ∨ hi < (zyrg E v).1 then (ztg pc dflt).map (fun t => (t, lv, r)) else none) else none
    | _ => none
  | _ => none
def zyP (E : zyE) (c : Nat) (i : Instr) (pc : Nat) (lv : zyLv) (st : List zyV) : Option (Nat × zyLv × List zyV) := match zyar i with
  | some n => match zyun E n st with
    | some (vs, r) => match zP c i pc [] vs with
      | some (pc', _, vs') => some (pc', lv, vs'.map .inl ++ r)
      | none => none
    | none => zyPs E i pc lv st
  | none => zyPs E i pc lv st
def zyup (Y : Nat → Nat → zyV) (a k : Nat) (v : zyV) : Nat → Nat → zyV := fun i l => bif Nat.beq i a && Nat.beq l k then v else Y i l
def zyupL (F : Nat → Nat → Option Int64) (a k : Nat) (v : Option Int64) : Nat → Nat → Option Int64 := fun i l => bif Nat.beq i a && Nat.beq l k then v else F i l
def zygetf (c idx pc : Nat) (st : List zyV) (A : zyM) : Option (Nat × List zyV × zyM) := match (zfp c).lookup idx with
  | some (ci, k, _) => match st with
    | .inl (.ref a) :: r => match A.1[a]? with
      | some (kd, _, rs) => bif kd == ci then match (zft ci)[k]? with
        | some (2, _) => match zrv rs k with
          | some b => some (pc + 3, .inl (.ref b) :: r, A)
          | none => none
        | some _ => some (pc + 3, A.2.1 a k :: r, A)
        | none => none
        else none
      | none => none
    | _ => none
  | none => none
def zyputf (c idx pc : Nat) (st : List zyV) (A : zyM) : Option (Nat × List zyV × zyM) := match (zfp c).lookup idx with
  | some (ci, k, _) => match st with
    | v :: .inl (.ref a) :: r => match A.1[a]? with
      | some (kd, _, _) => bif kd == ci then match (zft ci)[k]? with
        | some (0, false) => bif zyI v then some (pc + 3, r, (A.1, zyup A.2.1 a k v, A.2.2)) else none
        | some (1, false) => match v with
          | .inl (.int x) => if x = 0 ∨ x = 1 then some (pc + 3, r, (A.1, zyup A.2.1 a k (.inl (.int x)), A.2.2)) else none
          | _ => none
        | _ => none
        else none
      | none => none
    | _ => none
  | none => none
def zyiald (τ : Nat → Nat × (Nat → zyV)) (E : zyE) (pc : Nat) (st : List zyV) (A : zyM) : Option (Nat × List zyV × zyM) := match st with
  | v :: .inl (.ref a) :: r => match zyres E v with
    | .inl (.int i) => bif Nat.blt a 1000 then match A.1[a]? with
        | some (kd, n, _) => bif kd == 10 && !zoutB i n then some (pc + 1, A.2.1 a i.toNatClampNeg :: r, A) else none
        | none => none
      else bif Nat.blt a 1005 && !zoutB i (τ (a - 1000)).1 then some (pc + 1, (τ (a - 1000)).2 i.toNatClampNeg :: r, A) else none
    | _ => none
  | _ => none
def zylald (E : zyE) (pc : Nat) (st : List zyV) (A : zyM) : Option (Nat × List zyV × zyM) := match st with
  | v :: .inl (.ref a) :: r => match zyres E v with
    | .inl (.int i) => match A.1[a]? with
      | some (kd, n, _) => bif kd == 14 && !zoutB i n then match A.2.2.1 a i.toNatClampNeg with
          | some x => some (pc + 1, .inl (.long x) :: r, A)
          | none => none
        else none
      | none => none
    | _ => none
  | _ => none
def zyaald (E : zyE) (pc : Nat) (st : List zyV) (A : zyM) : Option (Nat × List zyV × zyM) := match st with
  | v :: .inl (.ref a) :: r => match zyres E v with
    | .inl (.int i) => match A.1[a]? with
      | some (kd, n, rs) => bif (kd == 12 || kd == 13) && !zoutB i n then match zrv rs i.toNatClampNeg with
          | some b => some (pc + 1, .inl (.ref b) :: r, A)
          | none => none
        else none
      | none => none
    | _ => none
  | _ => none
def zyiast (E : zyE) (pc : Nat) (st : List zyV) (A : zyM) : Option (Nat × List zyV × zyM) := match st with
  | x :: v :: .inl (.ref a) :: r => match zyres E v with
    | .inl (.int i) => match A.1[a]? with
      | some (kd, n, _) => bif kd == 10 && !zoutB i n && zyI x then some (pc + 1, r, (A.1, zyup A.2.1 a i.toNatClampNeg x, A.2.2)) else none
      | none => none
    | _ => none
  | _ => none
def zynar (x : zyV) : zyV := match x with
  | .inl (.int y) => .inl (.int (vp_nar .byte y))
  | _ => .inr none
def zybast (E : zyE) (pc : Nat) (st : List zyV) (A : zyM) : Option (Nat × List zyV × zyM) := match st with
  | x :: v :: .inl (.ref a) :: r => match zyres E v with
    | .inl (.int i) => match A.1[a]? with
      | some (kd, n, _) => bif kd == 11 && !zoutB i n && zyI x then some (pc + 1, r, (A.1, zyup A.2.1 a i.toNatClampNeg (zynar x), A.2.2)) else none
      | none => none
    | _ => none
  | _ => none
def zylast (E : zyE) (pc : Nat) (st : List zyV) (A : zyM) : Option (Nat × List zyV × zyM) := match st with
  | .inl (.long x) :: v :: .inl (.ref a) :: r => match zyres E v with
    | .inl (.int i) => match A.1[a]? with
      | some (kd, n, _) => bif kd == 14 && !zoutB i n then some (pc + 1, r, (A.1, A.2.1, zyupL A.2.2.1 a i.toNatClampNeg (some x), A.2.2.2)) else none
      | none => none
    | _ => none
  | _ => none
def zyalen (τ : Nat → Nat × (Nat → zyV)) (pc : Nat) (st : List zyV) (A : zyM) : Option (Nat × List zyV × zyM) := match st with
  | .inl (.ref a) :: r => bif Nat.blt a 1000 then match A.1[a]? with
      | some (kd, n, _) => bif kd == 10 || kd == 11 then some (pc + 1, .inl (.int (Int32.ofNat n)) :: r, A) else none
      | none => none
    else bif Nat.blt a 1005 then some (pc + 1, .inl (.int (Int32.ofNat (τ (a - 1000)).1)) :: r, A) else none
  | _ => none
def zygets (c idx pc : Nat) (st : List zyV) (A : zyM) : Option (Nat × List zyV × zyM) := match (zgp c).lookup idx with
  | some (sid, _, _) => some (pc + 3, .inl (.ref (1000 + sid)) :: st, A)
  | none => none
def zyacp (c idx pc : Nat) (st : List zyV) (A : zyM) : Option (Nat × List zyV × zyM) := match (zmp c).lookup idx with
  | some (5, _, _) => match st with
    | .inl (.int n) :: .inl (.int dp) :: .inl (.ref a1) :: .inl (.int sp) :: .inl (.ref a0) :: r => match A.1[a0]?, A.1[a1]? with
      | some (k0, n0, _), some (k1, n1, _) => bif k0 == 10 && k1 == 10 && decide (¬ sp < 0) && decide (¬ dp < 0) && decide (¬ n < 0) && Nat.ble (sp.toNatClampNeg + n.toNatClampNeg) n0 && Nat.ble (dp.toNatClampNeg + n.toNatClampNeg) n1 && Nat.ble (zysum r) 8 then
          some (pc + 3, r, (A.1, (fun i => bif Nat.beq i a1 then va_cpy (A.2.1 a0) (A.2.1 a1) sp.toNatClampNeg dp.toNatClampNeg n.toNatClampNeg else A.2.1 i), A.2.2))
        else none
      | _, _ => none
    | _ => none
  | _ => none
def zyS (τ : Nat → Nat × (Nat → zyV)) (E : zyE) (c : Nat) (i : Instr) (pc : Nat) (st : List zyV) (A : zyM) : Option (Nat × List zyV × zyM) := match i with
  | .getfield idx => zygetf c idx pc st A
  | .putfield idx => zyputf c idx pc st A
  | .iaload => zyiald τ E pc st A
  | .laload => zylald E pc st A
  | .aaload => zyaald E pc st A
  | .iastore => zyiast E pc st A
  | .bastore => zybast E pc st A
  | .lastore => zylast E pc st A
  | .arraylength => zyalen τ pc st A
  | .getstatic idx => zygets c idx pc st A
  | .invokestatic idx => zyacp c idx pc st A
  | _ => none
def zyret (j : Nat) (i : Instr) (st : List zyV) : Option (Option zyV) := match zent j with
  | some q => match i with
    | .ireturn => match st with
      | [v] => match q.2.2.2.1 with
        | some .int => bif zyI v then some (some v) else none
        | some .boolean => match v with
          | .inl (.int x) => if x = 0 ∨ x = 1 then some (some (.inl (.int x))) else none
          | _ => none
        | _ => none
      | _ => none
    | .areturn => match st with
      | [.inl (.ref a)] => match q.2.2.2.1 with
        | some (.object _) => some (some (.inl (.ref a)))
        | _ => none
      | _ => none
    | .return_ => match st with
      | [] => match q.2.2.2.1 with
        | none => some none
        | _ => none
      | _ => none
    | _ => none
  | none => none
def zysp (n : Nat) (st : List zyV) : Option (List zyV × List zyV) := bif Nat.ble n st.length && Nat.ble (zysum (st.drop n)) 8 && (st.take n).all (fun v => zycat v == 1) then some ((st.take n).reverse, st.drop n) else none
def zycall (c : Nat) (i : Instr) (st : List zyV) (A : zyM) : Option (Nat × List zyV × List zyV) := match i with
  | .invokevirtual idx => match (zmp c).lookup idx with
    | some (0, j, _) => match zysp (zna j + 1) st with
      | some (.inl (.ref b) :: as, r) => match A.1[b]? with
        | some (kd, _, _) => bif kd == j / 200 then some (j, .inl (.ref b) :: as, r) else none
        | none => none
      | _ => none
    | _ => none
  | .invokestatic idx => match (zmp c).lookup idx with
    | some (1, j, _) => bif Nat.blt j 2400 then (match zysp (zna j) st with
      | some (as, r) => some (j, as, r)
      | none => none) else none
    | _ => none
  | .invokespecial idx => match (zmp c).lookup idx with
    | some (2, j, _) => match zysp (zna j + 1) st with
      | some (.inl (.ref b) :: as, r) => some (j, .inl (.ref b) :: as, r)
      | _ => none
    | _ => none
  | _ => none
def zymath (E : zyE) (c : Nat) (i : Instr) (pc : Nat) (st : List zyV) : Option (Nat × List zyV) := match i with
  | .invokestatic idx => match (zmp c).lookup idx with
    | some (1, 2401, _) => match zyun E 2 st with
      | some ([.int y, .int x], r) => bif Nat.ble (zysum r) 8 then some (pc + 3, .inl (.int (if x < y then y else x)) :: r) else none
      | _ => none
    | some (1, 2402, _) => match zyun E 2 st with
      | some ([.int y, .int x], r) => bif Nat.ble (zysum r) 8 then some (pc + 3, .inl (.int (if y < x then y else x)) :: r) else none
      | _ => none
    | _ => none
  | _ => none
/-- where the bounds of an int of the script must be halved first -/
def zycp (E : zyE) (k : ClassFile.Cond) (s : Nat) (c : Int) : Option (Nat × Int) := match k with
  | .lt | .ge => if (zyiv E s).2 < c ∨ c ≤ (zyiv E s).1 then none else some (s, c)
  | .gt | .le => if c < (zyiv E s).1 ∨ (zyiv E s).2 ≤ c then none else some (s, c + 1)
  | .eq | .ne => if (zyiv E s).2 < c ∨ c < (zyiv E s).1 then none else if (zyiv E s).1 < c then some (s, c) else some (s, c + 1)
def zysw (k : ClassFile.Cond) : ClassFile.Cond := match k with
  | .lt => .gt
  | .gt => .lt
  | .le => .ge
  | .ge => .le
  | k => k
def zysm (E : zyE) (v : zyV) : Option (Nat × Int) := match zyres E v with
  | .inr (some s) => if (zyiv E s).2 - (zyiv E s).1 ≤ 64 then some (s, (zyiv E s).1 + 1) else none
  | _ => none
def zysm2 (E : zyE) (st : List zyV) : Option (Nat × Int) := match st with
  | v :: w :: _ => match zysm E v with
    | some q => some q
    | none => zysm E w
  | _ => none
def zycut (E : zyE) (i : Instr) (st : List zyV) : Option (Nat × Int) := match i with
  | .ifCond k _ => match st with
    | v :: _ => match zyres E v with
      | .inr (some s) => zycp E k s 0
      | _ => none
    | _ => none
  | .if_icmp k _ => match st with
    | w :: v :: _ => match zyres E v, zyres E w with
      | .inr (some s), .inl (.int y) => zycp E k s y.toInt
      | .inl (.int x), .inr (some s) => zycp E (zysw k) s x.toInt
      | _, _ => none
    | _ => none
  | .tableswitch _ lo hi _ => match st with
    | v :: _ => match zyres E v with
      | .inr (some s) => if (zyiv E s).2 < lo ∨ hi < (zyiv E s).1 then none else if (zyiv E s).1 < lo then some (s, lo) else if hi < (zyiv E s).2 then some (s, hi + 1) else some (s, (zyiv E s).1 + 1)
      | _ => none
    | _ => none
  | .iaload => match st with
    | v :: _ => zysm E v
    | _ => none
  | .aaload => match st with
    | v :: _ => zysm E v
    | _ => none
  | .iadd => zysm2 E st
  | .isub => zysm2 E st
  | .imul => zysm2 E st
  | .iand => zysm2 E st
  | .ior => zysm2 E st
  | .ixor => zysm2 E st
  | .ishl => zysm2 E st
  | .ishr => zysm2 E st
  | .iushr => zysm2 E st
  | .idiv => zysm2 E st
  | .irem => zysm2 E st
  | _ => none
def zythM (A : zyM) : zyM := (A.1, A.2.1, A.2.2.1, false, A.2.2.2.2.1 + 1, A.2.2.2.2.2 + 6)
def zyarg (j : Nat) (as : List zyV) : zyLv := match zent j with
  | some q => as.map some ++ List.replicate (q.2.2.1 - as.length) none
  | none => []
/-- the reference's copies of a row of 788 -/
def zycop (E : zyE) (as : List zyV) (A : zyM) : Option (List (zyE × zyO × zyM)) := match as with
  | [.inl (.ref a), .inl (.ref b)] => match A.1[a]?, A.1[b]? with
    | some (10, 788, _), some (10, 788, _) => bif Nat.blt a 1000 && Nat.blt b 1000 && !Nat.beq a b then some [(E, .inl none, (A.1, (fun i k => bif Nat.beq i b && Nat.blt k 788 then A.2.1 a k else A.2.1 i k), A.2.2))] else none
    | _, _ => none
  | _ => none
def zyall {α β : Type} (f : α → Option (List β)) : List α → Option (List β)
  | [] => some []
  | a :: r => match f a with
    | none => none
    | some l => match zyall f r with
      | none => none
      | some l' => some (l ++ l')
def zynew (c : Nat) (i : Instr) : Bool := match i with
  | .new idx => ((zcp c).lookup idx).isNone
  | _ => false
/-- behind a call -/
def zyback (j pc : Nat) (go : zyE → Option zyV → zyM → Option (List (zyE × zyO × zyM))) (q : zyE × zyO × zyM) : Option (List (zyE × zyO × zyM)) := match q.2.1 with
  | .inl v => go q.1 v q.2.2
  | .inr e => match zhnd j pc e with
    | some a => some [(q.1, .inl (some (.inl (.int (Int32.ofNat a)))), q.2.2)]
    | none => bif znoH j then some [(q.1, .inr e, q.2.2)] else none
def zyrun (τ : Nat → Nat × (Nat → zyV)) : Nat → zyE → Nat → Nat → Nat → zyLv → List zyV → zyM → Option (List (zyE × zyO × zyM))
  | 0, _, _, _, _, _, _, _ => none
  | n + 1, E, d, j, pc, lv, st, A => match zfe j pc with
    | none => none
    | some (i, _) => match zycut E i st with
      | some (s, p) => match zyrun τ n ((s, (zyiv E s).1, p - 1) :: E) d j pc lv st A with
        | none => none
        | some l => match zyrun τ n ((s, p, (zyiv E s).2) :: E) d j pc lv st A with
          | none => none
          | some l' => some (l ++ l')
      | none => match zyP E (j / 200) i pc lv st with
        | some (pc', lv', st') => zyrun τ n E d j pc' lv' st' A
        | none => match zyS τ E (j / 200) i pc st A with
          | some (pc', st', A') => zyrun τ n E d j pc' lv st' A'
          | none => match zyret j i st with
            | some v => some [(E, .inl v, A)]
            | none => match zthr j pc with
              | some e => bif Nat.ble (zysum st) 8 && znoH j && zynew (j / 200) i then some [(E, .inr e, zythM A)] else none
              | none => match zycall (j / 200) i st A with
                | none => match zymath E (j / 200) i pc st with
                  | some (pc', st') => zyrun τ n E d j pc' lv st' A
                  | none => none
                | some (j', as, rest) => match d with
                  | 0 => none
                  | d' + 1 => match (bif Nat.beq j' 1806 then zycop E as A else zyrun τ n E d' j' 0 (zyarg j' as) [] A) with
                    | none => none
                    | some l => zyall (zyback j pc (fun E' v A' => zyrun τ n E' (d' + 1) j (pc + 3) lv (v.toList ++ rest) A')) l
end
section
/-! what the abstract machine says holds of the small one -/
def zyR (ρ : Nat → Int32) (v : zyV) (w : Value) : Prop := match v with
  | .inl x => w = x
  | .inr (some k) => w = .int (ρ k)
  | .inr none => ∃ x, w = .int x
def zyRs (ρ : Nat → Int32) : List zyV → List Value → Prop
  | [], [] => True
  | v :: r, w :: s => zyR ρ v w ∧ zyRs ρ r s
  | _, _ => False
def zyLR (ρ : Nat → Int32) (lv : zyLv) (lw : zLv) : Prop := lv.length = lw.length ∧ ∀ (k : Nat) (v : zyV), lv[k]? = some (some v) → ∃ w, lw[k]? = some (some w) ∧ zyR ρ v w
def zyK (ρ : Nat → Int32) (E : zyE) : Prop := ∀ q ∈ E, q.2.1 ≤ (ρ q.1).toInt ∧ (ρ q.1).toInt ≤ q.2.2
def zyMR (ρ : Nat → Int32) (A : zyM) (M : zMem) : Prop := M.1 = A.1 ∧ (∀ i k, zyR ρ (A.2.1 i k) (.int (M.2.1 i k))) ∧ (∀ i k x, A.2.2.1 i k = some x → M.2.2.1 i k = x) ∧ M.2.2.2 = A.2.2.2
def zyOR (ρ : Nat → Int32) (o : zyO) (w : zO) : Prop := match o, w with
  | .inl none, .inl none => True
  | .inl (some v), .inl (some x) => zyR ρ v x
  | .inr a, .inr b => a = b
  | _, _ => False
def zyT (ρ : Nat → Int32) (τ : Nat → Nat × (Nat → zyV)) (σ : Nat → Nat × (Nat → Int32)) : Prop := ∀ n, (σ n).1 = (τ n).1 ∧ ∀ k, zyR ρ ((τ n).2 k) (.int ((σ n).2 k))
section ZYA
variable {ρ : Nat → Int32} {E : zyE}
theorem zyRs_nil {w : List Value} (h : zyRs ρ [] w) : w = [] := by
  cases w with
  | nil => rfl
  | cons a r => exact absurd h (fun q => q)
theorem zyRs_cons {v : zyV} {r : List zyV} {w : List Value} (h : zyRs ρ (v :: r) w) : ∃ x s, w = x :: s ∧ zyR ρ v x ∧ zyRs ρ r s := by
  cases w with
  | nil => exact absurd h (fun q => q)
  | cons a s => exact ⟨a, s, rfl, h.1, h.2⟩
theorem zyRs_app : ∀ {a : List zyV} {x : List Value} {b : List zyV} {y : List Value}, zyRs ρ a x → zyRs ρ b y → zyRs ρ (a ++ b) (x ++ y) := by
  intro a
  induction a with
  | nil =>
    intro x b y h1 h2
    rw [zyRs_nil h1]; exact h2
  | cons v r ih =>
    intro x b y h1 h2
    obtain ⟨z, s, rfl, h3, h4⟩ := zyRs_cons h1
    exact ⟨h3, ih h4 h2⟩
theorem zyRs_map : ∀ (vs : List Value), zyRs ρ (vs.map .inl) vs := by
  intro vs
  induction vs with
  | nil => exact trivial
  | cons v r ih => exact ⟨rfl, ih⟩
theorem zyRs_len : ∀ {a : List zyV} {x : List Value}, zyRs ρ a x → x.length = a.length := by
  intro a
  induction a with
  | nil => intro x h; rw [zyRs_nil h]; rfl
  | cons v r ih =>
    intro x h
    obtain ⟨z, s, rfl, h3, h4⟩ := zyRs_cons h
    rw [List.length_cons, List.length_cons, ih h4]
theorem zyRs_drop : ∀ (n : Nat) {a : List zyV} {x : List Value}, zyRs ρ a x → zyRs ρ (a.drop n) (x.drop n) := by
  intro n
  induction n with
  | zero => intro a x h; rw [List.drop_zero, List.drop_zero]; exact h
  | succ n ih =>
    intro a x h
    cases a with
    | nil => rw [zyRs_nil h, List.drop_nil, List.drop_nil]; exact trivial
    | cons v r =>
      obtain ⟨z, s, rfl, h3, h4⟩ := zyRs_cons h
      rw [List.drop_succ_cons, List.drop_succ_cons]
      exact ih h4
theorem zyRs_take : ∀ (n : Nat) {a : List zyV} {x : List Value}, zyRs ρ a x → zyRs ρ (a.take n) (x.take n) := by
  intro n
  induction n with
  | zero => intro a x h; rw [List.take_zero, List.take_zero]; exact trivial
  | succ n ih =>
    intro a x h
    cases a with
    | nil => rw [zyRs_nil h, List.take_nil, List.take_nil]; exact trivial
    | cons v r =>
      obtain ⟨z, s, rfl, h3, h4⟩ := zyRs_cons h
      rw [List.take_succ_cons, List.take_succ_cons]
      exact ⟨h3, ih h4⟩
theorem zyRs_rev : ∀ {a : List zyV} {x : List Value}, zyRs ρ a x → zyRs ρ a.reverse x.reverse := by
  intro a
  induction a with
  | nil => intro x h; rw [zyRs_nil h]; exact trivial
  | cons v r ih =>
    intro x h
    obtain ⟨z, s, rfl, h3, h4⟩ := zyRs_cons h
    rw [List.reverse_cons, List.reverse_cons]
    exact zyRs_app (ih h4) ⟨h3, trivial⟩
theorem zycat_ok {v : zyV} {w : Value} (h : zyR ρ v w) : w.category = zycat v := by
  cases v with
  | inl x => cases h; rfl
  | inr o =>
    cases o with
    | none => obtain ⟨x, rfl⟩ := h; rfl
    | some k => cases h; rfl
theorem zysum_ok : ∀ {a : List zyV} {x : List Value}, zyRs ρ a x → zsum x = zysum a := by
  intro a
  induction a with
  | nil => intro x h; rw [zyRs_nil h]; rfl
  | cons v r ih =>
    intro x h
    obtain ⟨z, s, rfl, h3, h4⟩ := zyRs_cons h
    have h5 := ih h4
    unfold zsum zysum at h5 ⊢
    rw [List.map_cons, List.map_cons, List.sum_cons, List.sum_cons, h5, zycat_ok h3]
theorem zyall_ok : ∀ {a : List zyV} {x : List Value}, zyRs ρ a x → a.all (fun v => zycat v == 1) = true → x.all (fun v => v.category == 1) = true := by
  intro a
  induction a with
  | nil => intro x h _; rw [zyRs_nil h]; rfl
  | cons v r ih =>
    intro x h hb
    obtain ⟨z, s, rfl, h3, h4⟩ := zyRs_cons h
    rw [List.all_cons, Bool.and_eq_true] at hb ⊢
    refine ⟨?_, ih h4 hb.2⟩
    rw [zycat_ok h3]; exact hb.1
theorem zyI_ok {v : zyV} {w : Value} (h : zyI v = true) (hr : zyR ρ v w) : ∃ x, w = .int x := by
  cases v with
  | inl y =>
    cases hr
    cases w
    case int x => exact ⟨x, rfl⟩
    all_goals cases h
  | inr o =>
    cases o with
    | none => exact hr
    | some k => exact ⟨_, hr⟩
theorem zyA_ok {v : zyV} {w : Value} (h : zyA v = true) (hr : zyR ρ v w) : ∃ a, w = .ref a := by
  cases v with
  | inl y =>
    cases hr
    cases w
    case ref x => exact ⟨x, rfl⟩
    all_goals cases h
  | inr o => cases h
theorem zyIA_ok {v : zyV} {w : Value} (h : (zyI v || zyA v) = true) (hr : zyR ρ v w) : w.category = 1 := by
  cases hi : zyI v with
  | true => obtain ⟨x, rfl⟩ := zyI_ok hi hr; rfl
  | false =>
    rw [hi, Bool.false_or] at h
    obtain ⟨x, rfl⟩ := zyA_ok h hr; rfl
theorem zyiv_ok : ∀ {E : zyE}, zyK ρ E → ∀ k, (zyiv E k).1 ≤ (ρ k).toInt ∧ (ρ k).toInt ≤ (zyiv E k).2 := by
  intro E
  induction E with
  | nil =>
    intro _ k
    exact ⟨Int32.le_toInt (ρ k), Int.le_of_lt_add_one (Int32.toInt_lt (ρ k))⟩
  | cons q r ih =>
    intro h k
    rw [zyiv]
    cases hq : Nat.beq q.1 k with
    | false =>
      rw [cond_false]
      exact ih (fun x hx => h x (List.mem_cons_of_mem _ hx)) k
    | true =>
      rw [cond_true]
      have e := Nat.eq_of_beq_eq_true hq
      have := h q List.mem_cons_self
      rw [e] at this
      exact this
theorem zyres_ok {v : zyV} {w : Value} (hK : zyK ρ E) (h : zyR ρ v w) : zyR ρ (zyres E v) w := by
  cases v with
  | inl x => exact h
  | inr o =>
    cases o with
    | none => exact h
    | some k =>
      unfold zyres
      dsimp only
      split
      · rename_i he
        have h1 := zyiv_ok hK k
        have h2 : (ρ k).toInt = (zyiv E k).1 := by omega
        have h3 : w = .int (ρ k) := h
        show w = .int (Int32.ofInt (zyiv E k).1)
        rw [h3, ← h2, Int32.ofInt_toInt]
      · exact h
theorem zyun_ok (hK : zyK ρ E) : ∀ {n : Nat} {st : List zyV} {w : List Value} {vs : List Value} {r : List zyV}, zyun E n st = some (vs, r) → zyRs ρ st w → ∃ s, w = vs ++ s ∧ zyRs ρ r s ∧ vs.length = n := by
  intro n
  induction n with
  | zero =>
    intro st w vs r h hs
    rw [zyun] at h
    cases h
    exact ⟨w, rfl, hs, rfl⟩
  | succ n ih =>
    intro st w vs r h hs
    cases st with
    | nil => rw [zyun] at h; cases h
    | cons v t =>
      obtain ⟨z, s, rfl, h3, h4⟩ := zyRs_cons hs
      rw [zyun] at h
      have h5 := zyres_ok hK h3
      cases hv : zyres E v with
      | inr o => rw [hv] at h; cases h
      | inl x =>
        rw [hv] at h h5
        cases h5
        cases hu : zyun E n t with
        | none => simp only [hu] at h; cases h
        | some q =>
          obtain ⟨vs', r'⟩ := q
          simp only [hu] at h
          cases h
          obtain ⟨s', rfl, h6, h7⟩ := ih hu h4
          exact ⟨s', rfl, h6, by rw [List.length_cons, h7]⟩
theorem zyLR_set {lv : zyLv} {lw : zLv} (h : zyLR ρ lv lw) (k : Nat) {v : zyV} {w : Value} (hv : zyR ρ v w) : zyLR ρ (lv.set k (some v)) (lw.set k (some w)) := by
  refine ⟨by rw [List.length_set, List.length_set]; exact h.1, fun l u hu => ?_⟩
  rw [List.getElem?_set] at hu ⊢
  by_cases hk : k = l
  · subst hk
    rw [if_pos rfl] at hu ⊢
    by_cases hl : k < lv.length
    · rw [if_pos hl] at hu
      rw [if_pos (h.1 ▸ hl)]
      cases hu
      exact ⟨w, rfl, hv⟩
    · rw [if_neg hl] at hu; cases hu
  · rw [if_neg hk] at hu ⊢
    exact h.2 l u hu
theorem zyrg_ok {v : zyV} {x : Int32} (hK : zyK ρ E) (h : zyR ρ v (.int x)) : (zyrg E v).1 ≤ x.toInt ∧ x.toInt ≤ (zyrg E v).2 := by
  have hf : (-2147483648 : Int) ≤ x.toInt ∧ x.toInt ≤ 2147483647 := ⟨Int32.le_toInt x, Int.le_of_lt_add_one (Int32.toInt_lt x)⟩
  cases v with
  | inl y =>
    have h1 : Value.int x = y := h
    subst h1
    exact ⟨Int.le_refl _, Int.le_refl _⟩
  | inr o =>
    cases o with
    | none => exact hf
    | some k =>
      have h1 : Value.int x = .int (ρ k) := h
      cases h1
      exact zyiv_ok hK k
theorem zc12 (k : ClassFile.Cond) (x : Int32) : zc1 k x = zc2 k x 0 := by cases k <;> rfl
theorem zydc_ok {k : ClassFile.Cond} {p q : Int × Int} {b : Bool} {x y : Int32} (h : zydc k p q = some b) (hx : p.1 ≤ x.toInt ∧ x.toInt ≤ p.2) (hy : q.1 ≤ y.toInt ∧ y.toInt ≤ q.2) : zc2 k x y = b := by
  have hE : x = y ↔ x.toInt = y.toInt := Int32.toInt_inj.symm
  have hL : x < y ↔ x.toInt < y.toInt := Int32.lt_iff_toInt_lt
  have hL' : y < x ↔ y.toInt < x.toInt := Int32.lt_iff_toInt_lt
  have hM : x ≤ y ↔ x.toInt ≤ y.toInt := Int32.le_iff_toInt_le
  have hM' : y ≤ x ↔ y.toInt ≤ x.toInt := Int32.le_iff_toInt_le
  generalize x.toInt = a at *
  generalize y.toInt = c at *
  obtain ⟨p1, p2⟩ := p
  obtain ⟨q1, q2⟩ := q
  dsimp only at hx hy
  cases k
  all_goals simp only [zydc] at h
  all_goals simp only [zc2]
  all_goals repeat' split at h
  all_goals first | (cases h; done) | skip
  all_goals cases h
  all_goals first | (apply decide_eq_true) | (apply decide_eq_false)
  all_goals first | rw [hE] | rw [hL] | rw [hL'] | rw [hM] | rw [hM']
  all_goals omega
end ZYA
theorem zP_frame {c : Nat} {i : Instr} {pc n pc' : Nat} {vs vs' : List Value} {l : zLv} (hn : zyar i = some n) (hl : vs.length = n) (h : zP c i pc [] vs = some (pc', l, vs')) (lv : zLv) (st : List Value) : zP c i pc lv (vs ++ st) = some (pc', lv, vs' ++ st) := by
  have h0 : n = 0 → vs = [] := fun e => List.eq_nil_of_length_eq_zero (hl.trans e)
  have h1 : n = 1 → ∃ a, vs = [a] := fun e => List.length_eq_one_iff.mp (hl.trans e)
  have h2 : n = 2 → ∃ a b, vs = [a, b] := fun e => by
    have hl2 := hl.trans e
    match vs, hl2 with
    | [a, b], _ => exact ⟨a, b, rfl⟩
  clear hl
  cases i
  case iconst k => cases hn; obtain rfl := h0 rfl; simp only [zP] at h ⊢; cases h; rfl
  case bipush k => cases hn; obtain rfl := h0 rfl; simp only [zP] at h ⊢; cases h; rfl
  case sipush k => cases hn; obtain rfl := h0 rfl; simp only [zP] at h ⊢; cases h; rfl
  case goto off =>
    cases hn; obtain rfl := h0 rfl
    simp only [zP, zgo] at h ⊢
    cases ht : ztg pc off with
    | none => rw [ht] at h; cases h
    | some t => rw [ht] at h; cases h; rfl
  case ldc idx =>
    cases hn; obtain rfl := h0 rfl
    simp only [zP] at h ⊢
    cases ht : zint c idx with
    | none => simp only [ht] at h; cases h
    | some t => simp only [ht] at h ⊢; cases h; rfl
  case ldc_w idx =>
    cases hn; obtain rfl := h0 rfl
    simp only [zP] at h ⊢
    cases ht : zint c idx with
    | none => simp only [ht] at h; cases h
    | some t => simp only [ht] at h ⊢; cases h; rfl
  case i2l =>
    cases hn; obtain ⟨a, rfl⟩ := h1 rfl
    cases a
    case int x => simp only [zP] at h; cases h; rfl
    all_goals (simp only [zP] at h; cases h)
  case i2b =>
    cases hn; obtain ⟨a, rfl⟩ := h1 rfl
    cases a
    case int x => simp only [zP] at h; cases h; rfl
    all_goals (simp only [zP] at h; cases h)
  case ifCond k off =>
    cases hn; obtain ⟨a, rfl⟩ := h1 rfl
    cases a
    case int x =>
      simp only [zP, zbr, List.cons_append, List.nil_append] at h ⊢
      cases ht : ztg pc off with
      | none => rw [ht] at h; cases h
      | some t => rw [ht] at h; cases h; rfl
    all_goals (simp only [zP] at h; cases h)
  case tableswitch dflt lo hi offs =>
    cases hn; obtain ⟨a, rfl⟩ := h1 rfl
    cases a
    case int x =>
      simp only [zP, zgo, List.cons_append, List.nil_append] at h ⊢
      split at h
      · rename_i hc
        rw [if_pos hc]
        cases ht : ztg pc dflt with
        | none => rw [ht] at h; cases h
        | some t => rw [ht] at h; cases h; rfl
      · rename_i hc
        rw [if_neg hc]
        split at h
        · rename_i off ho
          cases ht : ztg pc off with
          | none => rw [ht] at h; cases h
          | some t => rw [ht] at h; cases h; rfl
        · cases h
    all_goals (simp only [zP] at h; cases h)
  case lookupswitch dflt ps =>
    cases hn; obtain ⟨a, rfl⟩ := h1 rfl
    cases a
    case int x =>
      simp only [zP, zgo, List.cons_append, List.nil_append] at h ⊢
      split at h
      · rename_i hc
        rw [if_pos hc]
        cases ht : ztg pc (Op.lookupswitch.offset ps.toList dflt x.toInt) with
        | none => rw [ht] at h; cases h
        | some t => rw [ht] at h; cases h; rfl
      · cases h
    all_goals (simp only [zP] at h; cases h)
  case lcmp =>
    cases hn; obtain ⟨a, b, rfl⟩ := h2 rfl
    cases a
    case long x =>
      cases b
      case long y => simp only [zP] at h; cases h; rfl
      all_goals (simp only [zP] at h; cases h)
    all_goals (simp only [zP] at h; cases h)
  case if_icmp k off =>
    cases hn; obtain ⟨a, b, rfl⟩ := h2 rfl
    cases a
    case int x =>
      cases b
      case int y =>
        simp only [zP, zbr, List.cons_append, List.nil_append] at h ⊢
        cases ht : ztg pc off with
        | none => rw [ht] at h; cases h
        | some t => rw [ht] at h; cases h; rfl
      all_goals (simp only [zP] at h; cases h)
    all_goals (simp only [zP] at h; cases h)
  case idiv =>
    cases hn; obtain ⟨a, b, rfl⟩ := h2 rfl
    cases a
    case int x =>
      cases b
      case int y =>
        simp only [zP, z2d, List.cons_append, List.nil_append] at h ⊢
        split at h
        · cases h
        · rename_i hc
          rw [if_neg hc]; cases h; rfl
      all_goals (simp only [zP, z2d] at h; cases h)
    all_goals (simp only [zP, z2d] at h; cases h)
  case irem =>
    cases hn; obtain ⟨a, b, rfl⟩ := h2 rfl
    cases a
    case int x =>
      cases b
      case int y =>
        simp only [zP, z2d, List.cons_append, List.nil_append] at h ⊢
        split at h
        · cases h
        · rename_i hc
          rw [if_neg hc]; cases h; rfl
      all_goals (simp only [zP, z2d] at h; cases h)
    all_goals (simp only [zP, z2d] at h; cases h)
  case iadd =>
    cases hn; obtain ⟨a, b, rfl⟩ := h2 rfl
    cases a <;> cases b <;> simp only [zP, z2] at h <;> cases h
    rfl
  case isub =>
    cases hn; obtain ⟨a, b, rfl⟩ := h2 rfl
    cases a <;> cases b <;> simp only [zP, z2] at h <;> cases h
    rfl
  case imul =>
    cases hn; obtain ⟨a, b, rfl⟩ := h2 rfl
    cases a <;> cases b <;> simp only [zP, z2] at h <;> cases h
    rfl
  case iand =>
    cases hn; obtain ⟨a, b, rfl⟩ := h2 rfl
    cases a <;> cases b <;> simp only [zP, z2] at h <;> cases h
    rfl
  case ior =>
    cases hn; obtain ⟨a, b, rfl⟩ := h2 rfl
    cases a <;> cases b <;> simp only [zP, z2] at h <;> cases h
    rfl
  case ixor =>
    cases hn; obtain ⟨a, b, rfl⟩ := h2 rfl
    cases a <;> cases b <;> simp only [zP, z2] at h <;> cases h
    rfl
  case ishl =>
    cases hn; obtain ⟨a, b, rfl⟩ := h2 rfl
    cases a <;> cases b <;> simp only [zP, z2] at h <;> cases h
    rfl
  case ishr =>
    cases hn; obtain ⟨a, b, rfl⟩ := h2 rfl
    cases a <;> cases b <;> simp only [zP, z2] at h <;> cases h
    rfl
  case iushr =>
    cases hn; obtain ⟨a, b, rfl⟩ := h2 rfl
    cases a <;> cases b <;> simp only [zP, z2] at h <;> cases h
    rfl
  all_goals (simp only [zyar] at hn; cases hn)
end
section
section ZYB
variable {ρ : Nat → Int32} {E : zyE} {c pc pc' : Nat} {lv lv' : zyLv} {st st' : List zyV} {lw : zLv} {w : List Value}
theorem zyldI_ok {k : Nat} (h : zyld true lv k pc st = some (pc', lv', st')) (hl : zyLR ρ lv lw) (hs : zyRs ρ st w) : ∃ lw' w', zldI lw k pc w = some (pc', lw', w') ∧ zyLR ρ lv' lw' ∧ zyRs ρ st' w' := by
  unfold zyld at h
  split at h
  · rename_i v hv
    obtain ⟨x, hx, hr⟩ := hl.2 k v hv
    dsimp only [cond_true] at h
    cases hi : zyI v with
    | false => rw [hi, cond_false] at h; cases h
    | true =>
      rw [hi, cond_true] at h
      cases h
      obtain ⟨y, rfl⟩ := zyI_ok hi hr
      exact ⟨lw, .int y :: w, by unfold zldI; rw [hx], hl, hr, hs⟩
  · cases h
theorem zyldA_ok {k : Nat} (h : zyld false lv k pc st = some (pc', lv', st')) (hl : zyLR ρ lv lw) (hs : zyRs ρ st w) : ∃ lw' w', zldA lw k pc w = some (pc', lw', w') ∧ zyLR ρ lv' lw' ∧ zyRs ρ st' w' := by
  unfold zyld at h
  split at h
  · rename_i v hv
    obtain ⟨x, hx, hr⟩ := hl.2 k v hv
    dsimp only [cond_false] at h
    cases hi : zyA v with
    | false => rw [hi, cond_false] at h; cases h
    | true =>
      rw [hi, cond_true] at h
      cases h
      obtain ⟨y, rfl⟩ := zyA_ok hi hr
      exact ⟨lw, .ref y :: w, by unfold zldA; rw [hx], hl, hr, hs⟩
  · cases h
theorem zystI_ok {k : Nat} (h : zyst true lv k pc st = some (pc', lv', st')) (hl : zyLR ρ lv lw) (hs : zyRs ρ st w) : ∃ lw' w', zstI lw k pc w = some (pc', lw', w') ∧ zyLR ρ lv' lw' ∧ zyRs ρ st' w' := by
  cases st with
  | nil => cases h
  | cons v r =>
    obtain ⟨z, s, rfl, h3, h4⟩ := zyRs_cons hs
    simp only [zyst, cond_true] at h
    cases hi : zyI v with
    | false => rw [hi, Bool.false_and, cond_false] at h; cases h
    | true =>
      rw [hi, Bool.true_and] at h
      cases hk : Nat.blt k lv.length with
      | false => rw [hk, cond_false] at h; cases h
      | true =>
        rw [hk, cond_true] at h
        cases h
        obtain ⟨y, rfl⟩ := zyI_ok hi h3
        have hk' : k < lw.length := by
          rw [← hl.1]; exact Nat.le_of_ble_eq_true hk
        exact ⟨_, _, by unfold zstI; dsimp only; rw [if_pos hk'], zyLR_set hl k h3, h4⟩
theorem zystA_ok {k : Nat} (h : zyst false lv k pc st = some (pc', lv', st')) (hl : zyLR ρ lv lw) (hs : zyRs ρ st w) : ∃ lw' w', zstA lw k pc w = some (pc', lw', w') ∧ zyLR ρ lv' lw' ∧ zyRs ρ st' w' := by
  cases st with
  | nil => cases h
  | cons v r =>
    obtain ⟨z, s, rfl, h3, h4⟩ := zyRs_cons hs
    simp only [zyst, cond_false] at h
    cases hi : zyA v with
    | false => rw [hi, Bool.false_and, cond_false] at h; cases h
    | true =>
      rw [hi, Bool.true_and] at h
      cases hk : Nat.blt k lv.length with
      | false => rw [hk, cond_false] at h; cases h
      | true =>
        rw [hk, cond_true] at h
        cases h
        obtain ⟨y, rfl⟩ := zyA_ok hi h3
        have hk' : k < lw.length := by
          rw [← hl.1]; exact Nat.le_of_ble_eq_true hk
        exact ⟨_, _, by unfold zstA; dsimp only; rw [if_pos hk'], zyLR_set hl k h3, h4⟩
theorem zytop_ok (f : Int32 → Int32 → Int32) (h : zytop pc lv st = some (pc', lv', st')) (hl : zyLR ρ lv lw) (hs : zyRs ρ st w) : ∃ lw' w', z2 f pc lw w = some (pc', lw', w') ∧ zyLR ρ lv' lw' ∧ zyRs ρ st' w' := by
  cases st with
  | nil => cases h
  | cons v r =>
    cases r with
    | nil => cases h
    | cons u r =>
      obtain ⟨z, s, rfl, h3, h4⟩ := zyRs_cons hs
      obtain ⟨y, s, rfl, h5, h6⟩ := zyRs_cons h4
      simp only [zytop] at h
      cases hb : (zyI v && zyI u) with
      | false => rw [hb, cond_false] at h; cases h
      | true =>
        rw [hb, cond_true] at h
        cases h
        rw [Bool.and_eq_true] at hb
        obtain ⟨a, rfl⟩ := zyI_ok hb.1 h3
        obtain ⟨b, rfl⟩ := zyI_ok hb.2 h5
        exact ⟨lw, _, rfl, hl, ⟨_, rfl⟩, h6⟩
theorem zyPs_ok {i : Instr} (hK : zyK ρ E) (h : zyPs E i pc lv st = some (pc', lv', st')) (hl : zyLR ρ lv lw) (hs : zyRs ρ st w) : ∃ lw' w', zP c i pc lw w = some (pc', lw', w') ∧ zyLR ρ lv' lw' ∧ zyRs ρ st' w' := by
  cases i
  case iload_n k => exact zyldI_ok h hl hs
  case iload k => exact zyldI_ok h hl hs
  case aload_n k => exact zyldA_ok h hl hs
  case aload k => exact zyldA_ok h hl hs
  case istore_n k => exact zystI_ok h hl hs
  case istore k => exact zystI_ok h hl hs
  case astore_n k => exact zystA_ok h hl hs
  case astore k => exact zystA_ok h hl hs
  case iinc k n =>
    simp only [zyPs] at h
    split at h
    · rename_i x hx
      cases h
      obtain ⟨y, hy, hr⟩ := hl.2 k _ hx
      have hr' : y = .int x := hr
      subst hr'
      exact ⟨_, _, by simp only [zP]; rw [hy], zyLR_set hl k rfl, hs⟩
    · cases h
  case dup =>
    cases st with
    | nil => cases h
    | cons v r =>
      obtain ⟨z, s, rfl, h3, h4⟩ := zyRs_cons hs
      simp only [zyPs] at h
      cases hb : (zyI v || zyA v) with
      | false => rw [hb, cond_false] at h; cases h
      | true =>
        rw [hb, cond_true] at h
        cases h
        exact ⟨lw, z :: z :: s, by simp only [zP]; rw [if_pos (zyIA_ok hb h3)], hl, h3, h3, h4⟩
  case dup2 =>
    cases st with
    | nil => cases h
    | cons v r =>
      cases r with
      | nil => cases h
      | cons u r =>
        obtain ⟨z, s, rfl, h3, h4⟩ := zyRs_cons hs
        obtain ⟨y, s, rfl, h5, h6⟩ := zyRs_cons h4
        simp only [zyPs] at h
        cases hb : ((zyI v || zyA v) && (zyI u || zyA u)) with
        | false => rw [hb, cond_false] at h; cases h
        | true =>
          rw [hb, cond_true] at h
          cases h
          rw [Bool.and_eq_true] at hb
          exact ⟨lw, z :: y :: z :: y :: s, by simp only [zP]; rw [if_pos ⟨zyIA_ok hb.1 h3, zyIA_ok hb.2 h5⟩], hl, h3, h5, h3, h5, h6⟩
  case pop =>
    cases st with
    | nil => cases h
    | cons v r =>
      obtain ⟨z, s, rfl, h3, h4⟩ := zyRs_cons hs
      simp only [zyPs] at h
      cases hb : (zyI v || zyA v) with
      | false => rw [hb, cond_false] at h; cases h
      | true =>
        rw [hb, cond_true] at h
        cases h
        exact ⟨lw, s, by simp only [zP]; rw [if_pos (zyIA_ok hb h3)], hl, h4⟩
  case iadd => exact zytop_ok _ h hl hs
  case isub => exact zytop_ok _ h hl hs
  case imul => exact zytop_ok _ h hl hs
  case iand => exact zytop_ok _ h hl hs
  case ior => exact zytop_ok _ h hl hs
  case ixor => exact zytop_ok _ h hl hs
  case ishl => exact zytop_ok _ h hl hs
  case ishr => exact zytop_ok _ h hl hs
  case iushr => exact zytop_ok _ h hl hs
  case i2b =>
    cases st with
    | nil => cases h
    | cons v r =>
      obtain ⟨z, s, rfl, h3, h4⟩ := zyRs_cons hs
      simp only [zyPs] at h
      cases hb : zyI v with
      | false => rw [hb, cond_false] at h; cases h
      | true =>
        rw [hb, cond_true] at h
        cases h
        obtain ⟨a, rfl⟩ := zyI_ok hb h3
        exact ⟨_, _, rfl, hl, ⟨_, rfl⟩, h4⟩
  case ifCond k off =>
    cases st with
    | nil => cases h
    | cons v r =>
      obtain ⟨z, s, rfl, h3, h4⟩ := zyRs_cons hs
      simp only [zyPs] at h
      cases hb : zyI v with
      | false => rw [hb, cond_false] at h; cases h
      | true =>
        rw [hb, cond_true] at h
        obtain ⟨a, rfl⟩ := zyI_ok hb h3
        cases hd : zydc k (zyrg E v) (0, 0) with
        | none => rw [hd] at h; cases h
        | some b =>
          rw [hd] at h
          simp only [zybr] at h
          have h5 := zydc_ok (y := 0) hd (zyrg_ok hK h3) ⟨Int.le_refl _, Int.le_refl _⟩
          cases ht : ztg pc off with
          | none => rw [ht] at h; cases h
          | some t =>
            rw [ht] at h
            cases h
            refine ⟨lw, s, ?_, hl, h4⟩
            simp only [zP, zbr, ht, zc12, h5, Option.map_some]
  case if_icmp k off =>
    cases st with
    | nil => cases h
    | cons v r =>
      cases r with
      | nil => cases h
      | cons u r =>
        obtain ⟨z, s, rfl, h3, h4⟩ := zyRs_cons hs
        obtain ⟨y, s, rfl, h5, h6⟩ := zyRs_cons h4
        simp only [zyPs] at h
        cases hb : (zyI u && zyI v) with
        | false => rw [hb, cond_false] at h; cases h
        | true =>
          rw [hb, cond_true] at h
          rw [Bool.and_eq_true] at hb
          obtain ⟨a, rfl⟩ := zyI_ok hb.2 h3
          obtain ⟨b, rfl⟩ := zyI_ok hb.1 h5
          cases hd : zydc k (zyrg E u) (zyrg E v) with
          | none => rw [hd] at h; cases h
          | some b' =>
            rw [hd] at h
            simp only [zybr] at h
            have h7 := zydc_ok hd (zyrg_ok hK h5) (zyrg_ok hK h3)
            cases ht : ztg pc off with
            | none => rw [ht] at h; cases h
            | some t =>
              rw [ht] at h
              cases h
              refine ⟨lw, s, ?_, hl, h6⟩
              simp only [zP, zbr, ht, h7, Option.map_some]
  case tableswitch dflt lo hi offs =>
    cases st with
    | nil => cases h
    | cons v r =>
      obtain ⟨z, s, rfl, h3, h4⟩ := zyRs_cons hs
      simp only [zyPs] at h
      cases hb : zyI v with
      | false => rw [hb, cond_false] at h; cases h
      | true =>
        rw [hb, cond_true] at h
        obtain ⟨a, rfl⟩ := zyI_ok hb h3
        have h5 := zyrg_ok hK h3
        split at h
        · rename_i hc
          have h6 : a.toInt < lo ∨ hi < a.toInt := by
            rcases hc with hc | hc
            · exact Or.inl (Int.lt_of_le_of_lt h5.2 hc)
            · exact Or.inr (Int.lt_of_lt_of_le hc h5.1)
          cases ht : ztg pc dflt with
          | none => rw [ht] at h; cases h
          | some t =>
            rw [ht] at h
            cases h
            refine ⟨lw, s, ?_, hl, h4⟩
            simp only [zP]
            rw [if_pos h6]
            simp only [zgo, ht, Option.map_some]
        · cases h
  all_goals (simp only [zyPs] at h; cases h)
theorem zyP_ok {i : Instr} (hK : zyK ρ E) (h : zyP E c i pc lv st = some (pc', lv', st')) (hl : zyLR ρ lv lw) (hs : zyRs ρ st w) : ∃ lw' w', zP c i pc lw w = some (pc', lw', w') ∧ zyLR ρ lv' lw' ∧ zyRs ρ st' w' := by
  unfold zyP at h
  cases hn : zyar i with
  | none => rw [hn] at h; exact zyPs_ok hK h hl hs
  | some n =>
    rw [hn] at h
    dsimp only at h
    cases hu : zyun E n st with
    | none => rw [hu] at h; exact zyPs_ok hK h hl hs
    | some q =>
      obtain ⟨vs, r⟩ := q
      rw [hu] at h
      dsimp only at h
      obtain ⟨s, rfl, h3, h4⟩ := zyun_ok hK hu hs
      cases hp : zP c i pc [] vs with
      | none => rw [hp] at h; cases h
      | some y =>
        obtain ⟨a, l, vs'⟩ := y
        rw [hp] at h
        cases h
        exact ⟨lw, vs' ++ s, zP_frame hn h4 hp lw s, hl, zyRs_app (zyRs_map vs') h3⟩
end ZYB
end
section
section ZYC
variable {ρ : Nat → Int32} {E : zyE} {c pc pc' : Nat} {st st' : List zyV} {w : List Value} {A A' : zyM} {M : zMem} {τ : Nat → Nat × (Nat → zyV)} {σ : Nat → Nat × (Nat → Int32)}
theorem zyup_ok {a k : Nat} {v : zyV} {x : Int32} (h : zyMR ρ A M) (hv : zyR ρ v (.int x)) : zyMR ρ (A.1, zyup A.2.1 a k v, A.2.2) (M.1, zm2 M.2.1 a k x, M.2.2) := by
  refine ⟨h.1, fun i l => ?_, h.2.2.1, h.2.2.2⟩
  show zyR ρ (zyup A.2.1 a k v i l) (.int (zm2 M.2.1 a k x i l))
  unfold zyup zm2
  by_cases hi : i = a
  · subst hi
    rw [if_pos rfl]
    unfold upd
    by_cases hk : l = k
    · subst hk
      rw [if_pos rfl, Nat.beq_refl, Nat.beq_refl, Bool.and_self, cond_true]
      exact hv
    · rw [if_neg hk]
      have : Nat.beq l k = false := by
        cases hb : Nat.beq l k with
        | false => rfl
        | true => exact absurd (Nat.eq_of_beq_eq_true hb) hk
      rw [this, Bool.and_false, cond_false]
      exact h.2.1 i l
  · rw [if_neg hi]
    have : Nat.beq i a = false := by
      cases hb : Nat.beq i a with
      | false => rfl
      | true => exact absurd (Nat.eq_of_beq_eq_true hb) hi
    rw [this, Bool.false_and, cond_false]
    exact h.2.1 i l
theorem zyupL_ok {a k : Nat} {x : Int64} (h : zyMR ρ A M) : zyMR ρ (A.1, A.2.1, zyupL A.2.2.1 a k (some x), A.2.2.2) (M.1, M.2.1, zl2 M.2.2.1 a k x, M.2.2.2) := by
  refine ⟨h.1, h.2.1, fun i l y hy => ?_, h.2.2.2⟩
  have hy' : zyupL A.2.2.1 a k (some x) i l = some y := hy
  show zl2 M.2.2.1 a k x i l = y
  unfold zyupL at hy'
  unfold zl2
  by_cases hi : i = a
  · subst hi
    rw [if_pos rfl]
    unfold vp_updL
    by_cases hk : l = k
    · subst hk
      rw [Nat.beq_refl, Nat.beq_refl, Bool.and_self, cond_true] at hy'
      rw [if_pos rfl]
      cases hy'; rfl
    · rw [if_neg hk]
      have : Nat.beq l k = false := by
        cases hb : Nat.beq l k with
        | false => rfl
        | true => exact absurd (Nat.eq_of_beq_eq_true hb) hk
      rw [this, Bool.and_false, cond_false] at hy'
      exact h.2.2.1 i l y hy'
  · rw [if_neg hi]
    have : Nat.beq i a = false := by
      cases hb : Nat.beq i a with
      | false => rfl
      | true => exact absurd (Nat.eq_of_beq_eq_true hb) hi
    rw [this, Bool.false_and, cond_false] at hy'
    exact h.2.2.1 i l y hy'
theorem zygetf_ok {idx : Nat} (h : zygetf c idx pc st A = some (pc', st', A')) (hs : zyRs ρ st w) (hM : zyMR ρ A M) : ∃ w' M', zgetf c idx pc w M = some (pc', w', M') ∧ zyRs ρ st' w' ∧ zyMR ρ A' M' := by
  unfold zygetf at h
  unfold zgetf
  cases hf : (zfp c).lookup idx with
  | none => rw [hf] at h; cases h
  | some q =>
    obtain ⟨ci, k, pl⟩ := q
    rw [hf] at h
    dsimp only at h ⊢
    split at h
    · rename_i a r
      obtain ⟨z, s, rfl, h3, h4⟩ := zyRs_cons hs
      have h3' : z = .ref a := h3
      subst h3'
      dsimp only
      rw [hM.1]
      cases hS : A.1[a]? with
      | none => rw [hS] at h; cases h
      | some q =>
        obtain ⟨kd, n, rs⟩ := q
        rw [hS] at h
        dsimp only at h ⊢
        cases hk : (kd == ci) with
        | false => rw [hk, cond_false] at h; cases h
        | true =>
          rw [hk, cond_true] at h
          rw [cond_true]
          cases ht : (zft ci)[k]? with
          | none => rw [ht] at h; cases h
          | some t =>
            rw [ht] at h
            obtain ⟨t, f⟩ := t
            by_cases h2 : t = 2
            · subst h2
              try dsimp only at h
              try dsimp only
              cases hb : zrv rs k with
              | none => rw [hb] at h; cases h
              | some b =>
                rw [hb] at h
                cases h
                exact ⟨.ref b :: s, M, rfl, ⟨rfl, h4⟩, hM⟩
            · split at h
              · rename_i e; cases e; exact absurd rfl h2
              · cases h
                refine ⟨.int (M.2.1 a k) :: s, M, ?_, ⟨hM.2.1 a k, h4⟩, hM⟩
                split
                · rename_i e; cases e; exact absurd rfl h2
                · rfl
                · rename_i e; cases e
              · rename_i e; cases e
    · cases h
theorem zyputf_ok {ini : Bool} {idx : Nat} (h : zyputf c idx pc st A = some (pc', st', A')) (hs : zyRs ρ st w) (hM : zyMR ρ A M) : ∃ w' M', zputf c ini idx pc w M = some (pc', w', M') ∧ zyRs ρ st' w' ∧ zyMR ρ A' M' := by
  unfold zyputf at h
  unfold zputf
  cases hf : (zfp c).lookup idx with
  | none => rw [hf] at h; cases h
  | some q =>
    obtain ⟨ci, k, pl⟩ := q
    rw [hf] at h
    dsimp only at h ⊢
    split at h
    · rename_i v a r
      obtain ⟨z, s, rfl, h3, h4⟩ := zyRs_cons hs
      obtain ⟨y, s, rfl, h5, h6⟩ := zyRs_cons h4
      have h5' : y = .ref a := h5
      subst h5'
      cases hS : A.1[a]? with
      | none => rw [hS] at h; cases h
      | some q =>
        obtain ⟨kd, n, rs⟩ := q
        rw [hS] at h
        dsimp only at h
        cases hk : (kd == ci) with
        | false => rw [hk, cond_false] at h; cases h
        | true =>
          rw [hk, cond_true] at h
          split at h
          · rename_i ht
            cases hi : zyI v with
            | false => rw [hi, cond_false] at h; cases h
            | true =>
              rw [hi, cond_true] at h
              cases h
              obtain ⟨x, rfl⟩ := zyI_ok hi h3
              refine ⟨s, (M.1, zm2 M.2.1 a k x, M.2.2), ?_, h6, zyup_ok hM h3⟩
              simp only [hM.1, hS, hk, ht, cond_true]
          · rename_i ht
            split at h
            · rename_i x
              have h3' : z = .int x := h3
              subst h3'
              split at h
              · rename_i hx
                cases h
                refine ⟨s, (M.1, zm2 M.2.1 a k x, M.2.2), ?_, h6, zyup_ok hM h3⟩
                simp only [hM.1, hS, hk, ht, cond_true, if_pos hx]
              · cases h
            · cases h
          · cases h
    · cases h
theorem zyiald_ok (hT : zyT ρ τ σ) (hK : zyK ρ E) (h : zyiald τ E pc st A = some (pc', st', A')) (hs : zyRs ρ st w) (hM : zyMR ρ A M) : ∃ w' M', ziald σ pc w M = some (pc', w', M') ∧ zyRs ρ st' w' ∧ zyMR ρ A' M' := by
  unfold zyiald at h
  split at h
  · rename_i v a r
    obtain ⟨z, s, rfl, h3, h4⟩ := zyRs_cons hs
    obtain ⟨y, s, rfl, h5, h6⟩ := zyRs_cons h4
    have h5' : y = .ref a := h5
    subst h5'
    have h7 := zyres_ok hK h3
    split at h
    · rename_i i hv
      rw [hv] at h7
      have h7' : z = .int i := h7
      subst h7'
      unfold ziald
      dsimp only
      cases ha : Nat.blt a 1000 with
      | true =>
        rw [ha, cond_true] at h
        rw [cond_true, hM.1]
        cases hS : A.1[a]? with
        | none => rw [hS] at h; cases h
        | some q =>
          obtain ⟨kd, n, rs⟩ := q
          rw [hS] at h
          dsimp only at h ⊢
          cases hb : (kd == 10 && !zoutB i n) with
          | false => rw [hb, cond_false] at h; cases h
          | true =>
            rw [hb, cond_true] at h
            rw [cond_true]
            cases h
            exact ⟨.int (M.2.1 a i.toNatClampNeg) :: s, M, rfl, ⟨hM.2.1 a _, h6⟩, hM⟩
      | false =>
        rw [ha, cond_false] at h
        rw [cond_false, (hT (a - 1000)).1]
        cases hb : (Nat.blt a 1005 && !zoutB i (τ (a - 1000)).1) with
        | false => rw [hb, cond_false] at h; cases h
        | true =>
          rw [hb, cond_true] at h
          rw [cond_true]
          cases h
          exact ⟨.int ((σ (a - 1000)).2 i.toNatClampNeg) :: s, M, rfl, ⟨(hT (a - 1000)).2 _, h6⟩, hM⟩
    · cases h
  · cases h
theorem zylald_ok (hK : zyK ρ E) (h : zylald E pc st A = some (pc', st', A')) (hs : zyRs ρ st w) (hM : zyMR ρ A M) : ∃ w' M', zlald pc w M = some (pc', w', M') ∧ zyRs ρ st' w' ∧ zyMR ρ A' M' := by
  unfold zylald at h
  split at h
  · rename_i v a r
    obtain ⟨z, s, rfl, h3, h4⟩ := zyRs_cons hs
    obtain ⟨y, s, rfl, h5, h6⟩ := zyRs_cons h4
    have h5' : y = .ref a := h5
    subst h5'
    have h7 := zyres_ok hK h3
    split at h
    · rename_i i hv
      rw [hv] at h7
      have h7' : z = .int i := h7
      subst h7'
      unfold zlald
      dsimp only
      rw [hM.1]
      cases hS : A.1[a]? with
      | none => rw [hS] at h; cases h
      | some q =>
        obtain ⟨kd, n, rs⟩ := q
        rw [hS] at h
        dsimp only at h ⊢
        cases hb : (kd == 14 && !zoutB i n) with
        | false => rw [hb, cond_false] at h; cases h
        | true =>
          rw [hb, cond_true] at h
          rw [cond_true]
          cases hx : A.2.2.1 a i.toNatClampNeg with
          | none => rw [hx] at h; cases h
          | some x =>
            rw [hx] at h
            cases h
            refine ⟨.long (M.2.2.1 a i.toNatClampNeg) :: s, M, rfl, ⟨?_, h6⟩, hM⟩
            show Value.long _ = .long x
            rw [hM.2.2.1 _ _ _ hx]
    · cases h
  · cases h
theorem zyaald_ok (hK : zyK ρ E) (h : zyaald E pc st A = some (pc', st', A')) (hs : zyRs ρ st w) (hM : zyMR ρ A M) : ∃ w' M', zaald pc w M = some (pc', w', M') ∧ zyRs ρ st' w' ∧ zyMR ρ A' M' := by
  unfold zyaald at h
  split at h
  · rename_i v a r
    obtain ⟨z, s, rfl, h3, h4⟩ := zyRs_cons hs
    obtain ⟨y, s, rfl, h5, h6⟩ := zyRs_cons h4
    have h5' : y = .ref a := h5
    subst h5'
    have h7 := zyres_ok hK h3
    split at h
    · rename_i i hv
      rw [hv] at h7
      have h7' : z = .int i := h7
      subst h7'
      unfold zaald
      dsimp only
      rw [hM.1]
      cases hS : A.1[a]? with
      | none => rw [hS] at h; cases h
      | some q =>
        obtain ⟨kd, n, rs⟩ := q
        rw [hS] at h
        dsimp only at h ⊢
        cases hb : ((kd == 12 || kd == 13) && !zoutB i n) with
        | false => rw [hb, cond_false] at h; cases h
        | true =>
          rw [hb, cond_true] at h
          rw [cond_true]
          cases hx : zrv rs i.toNatClampNeg with
          | none => rw [hx] at h; cases h
          | some b =>
            rw [hx] at h
            cases h
            exact ⟨.ref b :: s, M, rfl, ⟨rfl, h6⟩, hM⟩
    · cases h
  · cases h
theorem zyiast_ok (hK : zyK ρ E) (h : zyiast E pc st A = some (pc', st', A')) (hs : zyRs ρ st w) (hM : zyMR ρ A M) : ∃ w' M', ziast pc w M = some (pc', w', M') ∧ zyRs ρ st' w' ∧ zyMR ρ A' M' := by
  unfold zyiast at h
  split at h
  · rename_i x v a r
    obtain ⟨z0, s, rfl, h1, h2⟩ := zyRs_cons hs
    obtain ⟨z, s, rfl, h3, h4⟩ := zyRs_cons h2
    obtain ⟨y, s, rfl, h5, h6⟩ := zyRs_cons h4
    have h5' : y = .ref a := h5
    subst h5'
    have h7 := zyres_ok hK h3
    split at h
    · rename_i i hv
      rw [hv] at h7
      have h7' : z = .int i := h7
      subst h7'
      cases hS : A.1[a]? with
      | none => rw [hS] at h; cases h
      | some q =>
        obtain ⟨kd, n, rs⟩ := q
        rw [hS] at h
        dsimp only at h
        cases hb : (kd == 10 && !zoutB i n && zyI x) with
        | false => rw [hb, cond_false] at h; cases h
        | true =>
          rw [hb, cond_true] at h
          cases h
          rw [Bool.and_eq_true] at hb
          obtain ⟨y, rfl⟩ := zyI_ok hb.2 h1
          refine ⟨s, (M.1, zm2 M.2.1 a i.toNatClampNeg y, M.2.2), ?_, h6, zyup_ok hM h1⟩
          unfold ziast
          simp only [hM.1, hS, hb.1, cond_true]
    · cases h
  · cases h
theorem zynar_ok {x : zyV} {y : Int32} (h : zyR ρ x (.int y)) : zyR ρ (zynar x) (.int (vp_nar .byte y)) := by
  cases x with
  | inl z =>
    have h' : Value.int y = z := h
    subst h'
    exact rfl
  | inr o => exact ⟨_, rfl⟩
theorem zybast_ok (hK : zyK ρ E) (h : zybast E pc st A = some (pc', st', A')) (hs : zyRs ρ st w) (hM : zyMR ρ A M) : ∃ w' M', zbast pc w M = some (pc', w', M') ∧ zyRs ρ st' w' ∧ zyMR ρ A' M' := by
  unfold zybast at h
  split at h
  · rename_i x v a r
    obtain ⟨z0, s, rfl, h1, h2⟩ := zyRs_cons hs
    obtain ⟨z, s, rfl, h3, h4⟩ := zyRs_cons h2
    obtain ⟨y, s, rfl, h5, h6⟩ := zyRs_cons h4
    have h5' : y = .ref a := h5
    subst h5'
    have h7 := zyres_ok hK h3
    split at h
    · rename_i i hv
      rw [hv] at h7
      have h7' : z = .int i := h7
      subst h7'
      cases hS : A.1[a]? with
      | none => rw [hS] at h; cases h
      | some q =>
        obtain ⟨kd, n, rs⟩ := q
        rw [hS] at h
        dsimp only at h
        cases hb : (kd == 11 && !zoutB i n && zyI x) with
        | false => rw [hb, cond_false] at h; cases h
        | true =>
          rw [hb, cond_true] at h
          cases h
          rw [Bool.and_eq_true] at hb
          obtain ⟨y, rfl⟩ := zyI_ok hb.2 h1
          refine ⟨s, (M.1, zm2 M.2.1 a i.toNatClampNeg (vp_nar .byte y), M.2.2), ?_, h6, zyup_ok hM (zynar_ok h1)⟩
          unfold zbast
          simp only [hM.1, hS, hb.1, cond_true]
    · cases h
  · cases h
theorem zylast_ok (hK : zyK ρ E) (h : zylast E pc st A = some (pc', st', A')) (hs : zyRs ρ st w) (hM : zyMR ρ A M) : ∃ w' M', zlast pc w M = some (pc', w', M') ∧ zyRs ρ st' w' ∧ zyMR ρ A' M' := by
  unfold zylast at h
  split at h
  · rename_i x v a r
    obtain ⟨z0, s, rfl, h1, h2⟩ := zyRs_cons hs
    obtain ⟨z, s, rfl, h3, h4⟩ := zyRs_cons h2
    obtain ⟨y, s, rfl, h5, h6⟩ := zyRs_cons h4
    have h1' : z0 = .long x := h1
    subst h1'
    have h5' : y = .ref a := h5
    subst h5'
    have h7 := zyres_ok hK h3
    split at h
    · rename_i i hv
      rw [hv] at h7
      have h7' : z = .int i := h7
      subst h7'
      cases hS : A.1[a]? with
      | none => rw [hS] at h; cases h
      | some q =>
        obtain ⟨kd, n, rs⟩ := q
        rw [hS] at h
        dsimp only at h
        cases hb : (kd == 14 && !zoutB i n) with
        | false => rw [hb, cond_false] at h; cases h
        | true =>
          rw [hb, cond_true] at h
          cases h
          refine ⟨s, (M.1, M.2.1, zl2 M.2.2.1 a i.toNatClampNeg x, M.2.2.2), ?_, h6, zyupL_ok hM⟩
          unfold zlast
          simp only [hM.1, hS, hb, cond_true]
    · cases h
  · cases h
theorem zyalen_ok (hT : zyT ρ τ σ) (h : zyalen τ pc st A = some (pc', st', A')) (hs : zyRs ρ st w) (hM : zyMR ρ A M) : ∃ w' M', zalen σ pc w M = some (pc', w', M') ∧ zyRs ρ st' w' ∧ zyMR ρ A' M' := by
  unfold zyalen at h
  split at h
  · rename_i a r
    obtain ⟨y, s, rfl, h5, h6⟩ := zyRs_cons hs
    have h5' : y = .ref a := h5
    subst h5'
    unfold zalen
    dsimp only
    cases ha : Nat.blt a 1000 with
    | true =>
      rw [ha, cond_true] at h
      rw [cond_true, hM.1]
      cases hS : A.1[a]? with
      | none => rw [hS] at h; cases h
      | some q =>
        obtain ⟨kd, n, rs⟩ := q
        rw [hS] at h
        dsimp only at h ⊢
        cases hb : (kd == 10 || kd == 11) with
        | false => rw [hb, cond_false] at h; cases h
        | true =>
          rw [hb, cond_true] at h
          rw [cond_true]
          cases h
          exact ⟨.int (Int32.ofNat n) :: s, M, rfl, ⟨rfl, h6⟩, hM⟩
    | false =>
      rw [ha, cond_false] at h
      rw [cond_false]
      cases hb : Nat.blt a 1005 with
      | false => rw [hb, cond_false] at h; cases h
      | true =>
        rw [hb, cond_true] at h
        rw [cond_true]
        cases h
        refine ⟨.int (Int32.ofNat (σ (a - 1000)).1) :: s, M, rfl, ⟨?_, h6⟩, hM⟩
        rw [(hT (a - 1000)).1]
        exact rfl
  · cases h
theorem zyacp_ok {idx : Nat} (h : zyacp c idx pc st A = some (pc', st', A')) (hs : zyRs ρ st w) (hM : zyMR ρ A M) : ∃ w' M', zacp c idx pc w M = some (pc', w', M') ∧ zyRs ρ st' w' ∧ zyMR ρ A' M' := by
  unfold zyacp at h
  split at h
  · rename_i x1 x2 hf
    split at h
    · rename_i n dp a1 sp a0 r
      obtain ⟨z1, s, rfl, h1, q1⟩ := zyRs_cons hs
      obtain ⟨z2, s, rfl, h2, q2⟩ := zyRs_cons q1
      obtain ⟨z3, s, rfl, h3, q3⟩ := zyRs_cons q2
      obtain ⟨z4, s, rfl, h4, q4⟩ := zyRs_cons q3
      obtain ⟨z5, s, rfl, h5, q5⟩ := zyRs_cons q4
      have h1' : z1 = .int n := h1
      have h2' : z2 = .int dp := h2
      have h3' : z3 = .ref a1 := h3
      have h4' : z4 = .int sp := h4
      have h5' : z5 = .ref a0 := h5
      subst h1' h2' h3' h4' h5'
      split at h
      · rename_i k0 n0 y0 k1 n1 y1 e0 e1
        rw [cond_eq_ite] at h
        split at h
        · rename_i hb
          have hsum : ((s.map fun v => v.category).sum) = zysum r := zysum_ok q5
          cases h
          refine ⟨s, (M.1, (fun i => if i = a1 then va_cpy (M.2.1 a0) (M.2.1 a1) sp.toNatClampNeg dp.toNatClampNeg n.toNatClampNeg else M.2.1 i), M.2.2), ?_, q5, hM.1, ?_, hM.2.2⟩
          · unfold zacp
            simp only [hf, hM.1, e0, e1, hsum]
            rw [hb, cond_true]
          · intro i l
            show zyR ρ ((bif Nat.beq i a1 then va_cpy (A.2.1 a0) (A.2.1 a1) sp.toNatClampNeg dp.toNatClampNeg n.toNatClampNeg else A.2.1 i) l) (.int ((if i = a1 then va_cpy (M.2.1 a0) (M.2.1 a1) sp.toNatClampNeg dp.toNatClampNeg n.toNatClampNeg else M.2.1 i) l))
            by_cases hi : i = a1
            · subst hi
              rw [if_pos rfl, Nat.beq_refl, cond_true]
              unfold va_cpy
              by_cases hl : dp.toNatClampNeg ≤ l ∧ l < dp.toNatClampNeg + n.toNatClampNeg
              · rw [if_pos hl, if_pos hl]
                exact hM.2.1 _ _
              · rw [if_neg hl, if_neg hl]
                exact hM.2.1 _ _
            · have : Nat.beq i a1 = false := by
                cases hb : Nat.beq i a1 with
                | false => rfl
                | true => exact absurd (Nat.eq_of_beq_eq_true hb) hi
              rw [if_neg hi, this, cond_false]
              exact hM.2.1 i l
        · cases h
      · cases h
    · cases h
  · cases h
theorem zyS_ok {ini : Bool} {i : Instr} {lw : zLv} (hT : zyT ρ τ σ) (hK : zyK ρ E) (h : zyS τ E c i pc st A = some (pc', st', A')) (hs : zyRs ρ st w) (hM : zyMR ρ A M) : zP c i pc lw w = none ∧ ∃ w' M', zS σ c ini i pc w M = some (pc', w', M') ∧ zyRs ρ st' w' ∧ zyMR ρ A' M' := by
  cases i
  case getfield idx => exact ⟨rfl, zygetf_ok h hs hM⟩
  case putfield idx => exact ⟨rfl, zyputf_ok h hs hM⟩
  case iaload => exact ⟨rfl, zyiald_ok hT hK h hs hM⟩
  case laload => exact ⟨rfl, zylald_ok hK h hs hM⟩
  case aaload => exact ⟨rfl, zyaald_ok hK h hs hM⟩
  case iastore => exact ⟨rfl, zyiast_ok hK h hs hM⟩
  case bastore => exact ⟨rfl, zybast_ok hK h hs hM⟩
  case lastore => exact ⟨rfl, zylast_ok hK h hs hM⟩
  case arraylength => exact ⟨rfl, zyalen_ok hT h hs hM⟩
  case getstatic idx =>
    refine ⟨rfl, ?_⟩
    simp only [zyS, zygets] at h
    simp only [zS, zgets]
    split at h
    · rename_i sid x1 x2 hf
      rw [hf]
      cases h
      exact ⟨.ref (1000 + sid) :: w, M, rfl, ⟨rfl, hs⟩, hM⟩
    · cases h
  case invokestatic idx => exact ⟨rfl, zyacp_ok h hs hM⟩
  all_goals (simp only [zyS] at h; cases h)
theorem zyret_ok {j : Nat} {i : Instr} {lw : zLv} {ini : Bool} {v : Option zyV} (h : zyret j i st = some v) (hs : zyRs ρ st w) : zP c i pc lw w = none ∧ zS σ c ini i pc w M = none ∧ ∃ x, zret j i w = some x ∧ zyOR ρ (.inl v) (.inl x) := by
  unfold zyret at h
  cases hj : zent j with
  | none => rw [hj] at h; cases h
  | some q =>
    rw [hj] at h
    dsimp only at h
    cases i
    case ireturn =>
      dsimp only at h
      refine ⟨rfl, rfl, ?_⟩
      cases st with
      | nil => cases h
      | cons a r =>
        cases r with
        | cons b r => cases h
        | nil =>
          obtain ⟨z, s, rfl, h3, h4⟩ := zyRs_cons hs
          obtain rfl := zyRs_nil h4
          dsimp only at h
          split at h
          · rename_i hq
            cases hi : zyI a with
            | false => rw [hi, cond_false] at h; cases h
            | true =>
              rw [hi, cond_true] at h
              cases h
              obtain ⟨x, rfl⟩ := zyI_ok hi h3
              refine ⟨some (.int x), ?_, h3⟩
              unfold zret
              simp only [hj, hq]
          · rename_i hq
            split at h
            · rename_i x
              have h3' : z = .int x := h3
              subst h3'
              split at h
              · rename_i hx
                cases h
                refine ⟨some (.int x), ?_, h3⟩
                unfold zret
                simp only [hj, hq, if_pos hx]
              · cases h
            · cases h
          · cases h
    case areturn =>
      dsimp only at h
      refine ⟨rfl, rfl, ?_⟩
      split at h
      · rename_i a
        obtain ⟨z, s, rfl, h3, h4⟩ := zyRs_cons hs
        obtain rfl := zyRs_nil h4
        have h3' : z = .ref a := h3
        subst h3'
        split at h
        · rename_i nm hq
          cases h
          refine ⟨some (.ref a), ?_, rfl⟩
          unfold zret
          simp only [hj, hq]
        · cases h
      · cases h
    case return_ =>
      dsimp only at h
      refine ⟨rfl, rfl, ?_⟩
      split at h
      · obtain rfl := zyRs_nil hs
        split at h
        · rename_i hq
          cases h
          refine ⟨none, ?_, trivial⟩
          unfold zret
          simp only [hj, hq]
        · cases h
      · cases h
    all_goals (dsimp only at h; cases h)
theorem zysp_ok {n j : Nat} {as r : List zyV} (h : zysp n st = some (as, r)) (hs : zyRs ρ st w) : ∃ as' r', zsp j n w = some (j, as', r') ∧ zyRs ρ as as' ∧ zyRs ρ r r' := by
  unfold zysp at h
  rw [cond_eq_ite] at h
  split at h
  · rename_i hb
    cases h
    rw [Bool.and_eq_true, Bool.and_eq_true] at hb
    refine ⟨(w.take n).reverse, w.drop n, ?_, zyRs_rev (zyRs_take n hs), zyRs_drop n hs⟩
    unfold zsp
    rw [zyRs_len hs, zysum_ok (zyRs_drop n hs), hb.1.1, hb.1.2, zyall_ok (zyRs_take n hs) hb.2]
    rfl
  · cases h
theorem zret_none {j : Nat} {i : Instr} {w : List Value} (h1 : i ≠ .ireturn) (h2 : i ≠ .areturn) (h3 : i ≠ .return_) : zret j i w = none := by
  unfold zret
  cases zent j with
  | none => rfl
  | some q =>
    cases i
    case ireturn => exact absurd rfl h1
    case areturn => exact absurd rfl h2
    case return_ => exact absurd rfl h3
    all_goals rfl
theorem zycall_ok {i : Instr} {lw : zLv} {ini : Bool} {j j' : Nat} {as r : List zyV} (h : zycall c i st A = some (j', as, r)) (hs : zyRs ρ st w) (hM : zyMR ρ A M) : zP c i pc lw w = none ∧ zS σ c ini i pc w M = none ∧ zret j i w = none ∧ ∃ as' r', zcall c i w M = some (j', as', r') ∧ zyRs ρ as as' ∧ zyRs ρ r r' := by
  cases i
  case invokevirtual idx =>
    refine ⟨rfl, rfl, zret_none (by intro e; cases e) (by intro e; cases e) (by intro e; cases e), ?_⟩
    simp only [zycall] at h
    split at h
    · rename_i j0 x1 hf
      split at h
      · rename_i b as0 r0 hsp
        obtain ⟨as', r', h1, h2, h3⟩ := zysp_ok (j := j0) hsp hs
        obtain ⟨z, s, rfl, h4, h5⟩ := zyRs_cons h2
        have h4' : z = .ref b := h4
        subst h4'
        split at h
        · rename_i kd y1 y2 hS
          cases hb : (kd == j0 / 200) with
          | false => rw [hb, cond_false] at h; cases h
          | true =>
            rw [hb, cond_true] at h
            cases h
            refine ⟨.ref b :: s, r', ?_, h2, h3⟩
            simp only [zcall, hf, h1, hM.1, hS, hb, cond_true]
        · cases h
      · cases h
    · cases h
  case invokestatic idx =>
    simp only [zycall] at h
    split at h
    · rename_i j0 x1 hf
      cases hb : Nat.blt j0 2400 with
      | false => rw [hb, cond_false] at h; cases h
      | true =>
        rw [hb, cond_true] at h
        split at h
        · rename_i as0 r0 hsp
          obtain ⟨as', r', h1, h2, h3⟩ := zysp_ok (j := j0) hsp hs
          cases h
          refine ⟨rfl, ?_, zret_none (by intro e; cases e) (by intro e; cases e) (by intro e; cases e), as', r', ?_, h2, h3⟩
          · simp only [zS, zacp, hf]
          · simp only [zcall, hf, hb, cond_true, h1]
        · cases h
    · cases h
  case invokespecial idx =>
    simp only [zycall] at h
    split at h
    · rename_i j0 x1 hf
      split at h
      · rename_i b as0 r0 hsp
        obtain ⟨as', r', h1, h2, h3⟩ := zysp_ok (j := j0) hsp hs
        obtain ⟨z, s, rfl, h4, h5⟩ := zyRs_cons h2
        have h4' : z = .ref b := h4
        subst h4'
        cases h
        refine ⟨rfl, ?_, zret_none (by intro e; cases e) (by intro e; cases e) (by intro e; cases e), .ref b :: s, r', ?_, h2, h3⟩
        · simp only [zS, zoin, hf]
        · simp only [zcall, hf, h1]
      · cases h
    · cases h
  all_goals (simp only [zycall] at h; cases h)
theorem zymath_ok {i : Instr} {lw : zLv} {ini : Bool} {j : Nat} (hK : zyK ρ E) (h : zymath E c i pc st = some (pc', st')) (hs : zyRs ρ st w) : zP c i pc lw w = none ∧ zS σ c ini i pc w M = none ∧ zret j i w = none ∧ zcall c i w M = none ∧ ∃ w', zmath c i pc w = some (pc', w') ∧ zyRs ρ st' w' := by
  cases i
  case invokestatic idx =>
    simp only [zymath] at h
    split at h
    · rename_i x1 hf
      split at h
      · rename_i y x r hu
        obtain ⟨s, rfl, h3, h4⟩ := zyun_ok hK hu hs
        cases hb : Nat.ble (zysum r) 8 with
        | false => rw [hb, cond_false] at h; cases h
        | true =>
          rw [hb, cond_true] at h
          cases h
          refine ⟨rfl, ?_, zret_none (by intro e; cases e) (by intro e; cases e) (by intro e; cases e), ?_, .int (if x < y then y else x) :: s, ?_, rfl, h3⟩
          · simp only [zS, zacp, hf]
          · simp only [zcall, hf] <;> rfl
          · simp only [zmath, hf, List.cons_append, List.nil_append, zysum_ok h3, hb, cond_true]
      · cases h
    · rename_i x1 hf
      split at h
      · rename_i y x r hu
        obtain ⟨s, rfl, h3, h4⟩ := zyun_ok hK hu hs
        cases hb : Nat.ble (zysum r) 8 with
        | false => rw [hb, cond_false] at h; cases h
        | true =>
          rw [hb, cond_true] at h
          cases h
          refine ⟨rfl, ?_, zret_none (by intro e; cases e) (by intro e; cases e) (by intro e; cases e), ?_, .int (if y < x then y else x) :: s, ?_, rfl, h3⟩
          · simp only [zS, zacp, hf]
          · simp only [zcall, hf] <;> rfl
          · simp only [zmath, hf, List.cons_append, List.nil_append, zysum_ok h3, hb, cond_true]
      · cases h
    · cases h
  all_goals (simp only [zymath] at h; cases h)
end ZYC
end
section
/-! the reference's copies, and the main row -/
def zcpm (m : Nat → Nat → Int32) (a b t : Nat) : Nat → Nat → Int32 := fun i k => if i = b ∧ k < t then m a k else m i k
theorem zcpm_step (m : Nat → Nat → Int32) {a b : Nat} (hab : a ≠ b) (t : Nat) : zm2 (zcpm m a b t) b t (zcpm m a b t a t) = zcpm m a b (t + 1) := by
  funext i k
  unfold zm2 zcpm upd
  have e1 : (if a = b ∧ t < t then m a t else m a t) = m a t := by split <;> rfl
  rw [e1]
  by_cases hi : i = b
  · subst hi
    rw [if_pos rfl]
    try dsimp only
    by_cases hk : k = t
    · subst hk
      rw [if_pos rfl, if_pos ⟨rfl, Nat.lt_succ_self _⟩]
    · rw [if_neg hk]
      by_cases hl : k < t
      · rw [if_pos ⟨rfl, hl⟩, if_pos ⟨rfl, Nat.lt_succ_of_lt hl⟩]
      · rw [if_neg (fun q => hl q.2), if_neg (fun q => by omega)]
  · rw [if_neg hi]
    try dsimp only
    rw [if_neg (fun q => hi q.1), if_neg (fun q => hi q.1)]
theorem z788 : (Int16.ofInt 788).toInt32.toInt = 788 := by decide +kernel
theorem zi31 {t : Nat} (h : t < 789) : t < 2 ^ 31 := Nat.lt_trans h (by decide)
theorem zcpc {t : Nat} (h : t < 788) : zc2 .ge (Int32.ofNat t) (Int16.ofInt 788).toInt32 = false := by
  unfold zc2
  apply decide_eq_false
  rw [Int32.le_iff_toInt_le, z788, Int32.toInt_ofNat_of_lt (zi31 (by omega))]
  omega
theorem zcpo {t : Nat} (h : t < 788) : zoutB (Int32.ofNat t) 788 = false := by
  unfold zoutB
  rw [Bool.or_eq_false_iff]
  constructor
  · apply decide_eq_false
    rw [Int32.lt_iff_toInt_lt, Int32.toInt_zero, Int32.toInt_ofNat_of_lt (zi31 (by omega))]
    omega
  · apply decide_eq_false
    rw [Int32.toNatClampNeg_ofNat_of_lt (zi31 (by omega))]
    omega
theorem zcpi (t : Nat) (_ : t < 788) : Int32.ofNat t + Int32.ofInt 1 = Int32.ofNat (t + 1) := by
  rw [Int32.ofNat_add]
  rfl
theorem zcp_loop {σ : Nat → Nat × (Nat → Int32)} {d a b : Nat} {S : List (Nat × Nat × List Nat)} {m : Nat → Nat → Int32} {y : (Nat → Nat → Int64) × Bool × Nat × Nat} {ra rb : List Nat} (hab : a ≠ b) (ha : Nat.blt a 1000 = true) (hA : S[a]? = some (10, 788, ra)) (hB : S[b]? = some (10, 788, rb)) : ∀ (n t : Nat), t + n = 788 → zEv σ d 1806 2 [some (.ref a), some (.ref b), some (.int (Int32.ofNat t))] [] (S, zcpm m a b t, y) (.inl none) (S, zcpm m a b 788, y) := by
  intro n
  induction n with
  | zero =>
    intro t ht
    have ht' : t = 788 := by omega
    subst ht'
    refine zeP (i := .iload_n 2) (len := 1) rfl rfl ?_
    refine zeP (i := .sipush 788) (len := 3) rfl rfl ?_
    refine zeP (i := .if_icmp .ge 15) (len := 3) (pc' := 21) (lv' := [some (.ref a), some (.ref b), some (.int (Int32.ofNat 788))]) (st' := []) rfl ?_ ?_
    · have h1 : zc2 .ge (Int32.ofNat 788) (Int16.ofInt 788).toInt32 = true := by decide +kernel
      show zbr (zc2 .ge (Int32.ofNat 788) (Int16.ofInt 788).toInt32) 6 15 [some (.ref a), some (.ref b), some (.int (Int32.ofNat 788))] [] = _
      unfold zbr
      rw [h1]
      rfl
    · exact zeR (i := .return_) (len := 1) rfl rfl rfl rfl
  | succ n ih =>
    intro t ht
    have hlt : t < 788 := by omega
    have hc := zcpc hlt
    have ho := zcpo hlt
    have hk : (Int32.ofNat t).toNatClampNeg = t := Int32.toNatClampNeg_ofNat_of_lt (zi31 (by omega))
    refine zeP (i := .iload_n 2) (len := 1) rfl rfl ?_
    refine zeP (i := .sipush 788) (len := 3) rfl rfl ?_
    refine zeP (i := .if_icmp .ge 15) (len := 3) (pc' := 9) (lv' := [some (.ref a), some (.ref b), some (.int (Int32.ofNat t))]) (st' := []) rfl ?_ ?_
    · show zbr (zc2 .ge (Int32.ofNat t) (Int16.ofInt 788).toInt32) 6 15 [some (.ref a), some (.ref b), some (.int (Int32.ofNat t))] [] = _
      unfold zbr
      rw [hc]
      rfl
    refine zeP (i := .aload_n 1) (len := 1) rfl rfl ?_
    refine zeP (i := .iload_n 2) (len := 1) rfl rfl ?_
    refine zeP (i := .aload_n 0) (len := 1) rfl rfl ?_
    refine zeP (i := .iload_n 2) (len := 1) rfl rfl ?_
    refine zeS (i := .iaload) (len := 1) (pc' := 14) (st' := [.int (zcpm m a b t a t), .int (Int32.ofNat t), .ref b]) (M1 := (S, zcpm m a b t, y)) rfl rfl ?_ ?_
    · simp only [zS, ziald, ha, cond_true, hA, beq_self_eq_true, ho, Bool.not_false, Bool.and_self, hk]
    refine zeS (i := .iastore) (len := 1) (pc' := 15) (st' := []) (M1 := (S, zcpm m a b (t + 1), y)) rfl rfl ?_ ?_
    · simp only [zS, ziast, hB, beq_self_eq_true, ho, Bool.not_false, Bool.and_self, cond_true, hk, zcpm_step m hab t]
    refine zeP (i := .iinc 2 1) (len := 3) (pc' := 18) (lv' := [some (.ref a), some (.ref b), some (.int (Int32.ofNat (t + 1)))]) (st' := []) rfl ?_ ?_
    · rw [← zcpi t hlt]
      rfl
    refine zeP (i := .goto (-16)) (len := 3) rfl rfl ?_
    exact ih (t + 1) (by omega)
theorem zcp_all {σ : Nat → Nat × (Nat → Int32)} {d a b : Nat} {S : List (Nat × Nat × List Nat)} {m : Nat → Nat → Int32} {y : (Nat → Nat → Int64) × Bool × Nat × Nat} {ra rb : List Nat} (hab : a ≠ b) (ha : Nat.blt a 1000 = true) (hA : S[a]? = some (10, 788, ra)) (hB : S[b]? = some (10, 788, rb)) : zCal σ d 1806 [.ref a, .ref b] (S, m, y) (.inl none) (S, zcpm m a b 788, y) := by
  have h0 : zcpm m a b 0 = m := by
    funext i k
    unfold zcpm
    rw [if_neg (fun q => Nat.not_lt_zero _ q.2)]
  have h1 := zcp_loop (σ := σ) (d := d) (m := m) (y := y) hab ha hA hB 788 0 rfl
  rw [h0] at h1
  show zEv σ d 1806 0 [some (.ref a), some (.ref b), none] [] _ _ _
  refine zeP (i := .iconst 0) (len := 1) rfl rfl ?_
  refine zeP (i := .istore_n 2) (len := 1) (pc' := 2) (lv' := [some (.ref a), some (.ref b), some (.int (Int32.ofNat 0))]) (st' := []) rfl ?_ h1
  rfl
section ZYD
variable {ρ : Nat → Int32} {τ : Nat → Nat × (Nat → zyV)} {σ : Nat → Nat × (Nat → Int32)}
theorem zycop_ok {E : zyE} {as : List zyV} {A : zyM} {l : List (zyE × zyO × zyM)} {d : Nat} {ws : List Value} {M : zMem} (h : zycop E as A = some l) (hK : zyK ρ E) (hs : zyRs ρ as ws) (hM : zyMR ρ A M) : ∃ q ∈ l, ∃ o M', zyK ρ q.1 ∧ zyOR ρ q.2.1 o ∧ zyMR ρ q.2.2 M' ∧ zCal σ d 1806 ws M o M' := by
  unfold zycop at h
  split at h
  · rename_i a b
    obtain ⟨z1, s, rfl, h1, q1⟩ := zyRs_cons hs
    obtain ⟨z2, s, rfl, h2, q2⟩ := zyRs_cons q1
    obtain rfl := zyRs_nil q2
    have h1' : z1 = .ref a := h1
    have h2' : z2 = .ref b := h2
    subst h1' h2'
    split at h
    · rename_i ra rb hA hB
      rw [cond_eq_ite] at h
      split at h
      · rename_i hb
        cases h
        rw [Bool.and_eq_true, Bool.and_eq_true] at hb
        have hab : a ≠ b := by
          intro e
          have := hb.2
          rw [show Nat.beq a b = true from e ▸ Nat.beq_refl a] at this
          cases this
        obtain ⟨S, m, y⟩ := M
        have hS : S = A.1 := hM.1
        refine ⟨_, List.mem_singleton.mpr rfl, .inl none, (S, zcpm m a b 788, y), hK, trivial, ⟨hM.1, fun i k => ?_, hM.2.2⟩, zcp_all hab hb.1.1 (hS ▸ hA) (hS ▸ hB)⟩
        show zyR ρ (bif Nat.beq i b && Nat.blt k 788 then A.2.1 a k else A.2.1 i k) (.int (zcpm m a b 788 i k))
        unfold zcpm
        by_cases hc : i = b ∧ k < 788
        · have e1 : Nat.beq i b = true := hc.1 ▸ Nat.beq_refl i
          have e2 : Nat.blt k 788 = true := Nat.ble_eq_true_of_le hc.2
          rw [if_pos hc, e1, e2, Bool.and_self, cond_true]
          exact hM.2.1 a k
        · have e1 : (Nat.beq i b && Nat.blt k 788) = false := by
            cases hx : (Nat.beq i b && Nat.blt k 788) with
            | false => rfl
            | true =>
              rw [Bool.and_eq_true] at hx
              exact absurd ⟨Nat.eq_of_beq_eq_true hx.1, Nat.le_of_ble_eq_true hx.2⟩ hc
          rw [if_neg hc, e1, cond_false]
          exact hM.2.1 i k
      · cases h
    · cases h
  · cases h
theorem zyall_mem {α β : Type} {f : α → Option (List β)} {q : α} : ∀ {l : List α} {outs : List β}, zyall f l = some outs → q ∈ l → ∃ l1, f q = some l1 ∧ ∀ x ∈ l1, x ∈ outs := by
  intro l
  induction l with
  | nil => intro outs _ hq; cases hq
  | cons a r ih =>
    intro outs h hq
    rw [zyall] at h
    cases ha : f a with
    | none => simp only [ha] at h; cases h
    | some l1 =>
      simp only [ha] at h
      cases hr : zyall f r with
      | none => simp only [hr] at h; cases h
      | some l2 =>
        simp only [hr] at h
        cases h
        rcases List.mem_cons.mp hq with rfl | hq
        · exact ⟨l1, ha, fun x hx => List.mem_append_left _ hx⟩
        · obtain ⟨l3, h3, h4⟩ := ih hr hq
          exact ⟨l3, h3, fun x hx => List.mem_append_right _ (h4 x hx)⟩
theorem zyarg_get {m : Nat} : ∀ {as : List zyV} {ws : List Value}, zyRs ρ as ws → ∀ (k : Nat) (v : zyV), (as.map some ++ List.replicate m none)[k]? = some (some v) → ∃ w, (ws.map some ++ List.replicate m none)[k]? = some (some w) ∧ zyR ρ v w := by
  intro as
  induction as with
  | nil =>
    intro ws hs k v h
    rw [List.map_nil, List.nil_append, List.getElem?_replicate] at h
    split at h
    · cases h
    · cases h
  | cons a r ih =>
    intro ws hs k v h
    obtain ⟨z, s, rfl, h3, h4⟩ := zyRs_cons hs
    cases k with
    | zero =>
      have h' : some (some a) = some (some v) := h
      cases h'
      exact ⟨z, rfl, h3⟩
    | succ k =>
      have h' : (r.map some ++ List.replicate m none)[k]? = some (some v) := h
      exact ih h4 k v h'
theorem zyarg_ok {j : Nat} {as : List zyV} {ws : List Value} (hs : zyRs ρ as ws) : zyLR ρ (zyarg j as) (zarg j ws) := by
  unfold zyarg zarg
  cases zent j with
  | none => exact ⟨rfl, fun k v h => by cases h⟩
  | some q =>
    dsimp only
    rw [zyRs_len hs]
    refine ⟨?_, zyarg_get hs⟩
    rw [List.length_append, List.length_append, List.length_map, List.length_map, zyRs_len hs, List.length_replicate, List.length_replicate]
theorem zyOR_l {v : Option zyV} {o : zO} (h : zyOR ρ (.inl v) o) : ∃ x : Option Value, o = .inl x ∧ ∀ {r : List zyV} {s : List Value}, zyRs ρ r s → zyRs ρ (v.toList ++ r) (x.toList ++ s) := by
  cases v with
  | none =>
    cases o with
    | inr e => exact absurd h (fun q => q)
    | inl x =>
      cases x with
      | some y => exact absurd h (fun q => q)
      | none => exact ⟨none, rfl, fun hr => hr⟩
  | some v =>
    cases o with
    | inr e => exact absurd h (fun q => q)
    | inl x =>
      cases x with
      | none => exact absurd h (fun q => q)
      | some y => exact ⟨some y, rfl, fun hr => ⟨h, hr⟩⟩
theorem zyOR_r {e : Nat} {o : zO} (h : zyOR ρ (.inr e) o) : o = .inr e := by
  cases o with
  | inl x => exact absurd h (fun q => q)
  | inr e' =>
    have h' : e = e' := h
    rw [h']
theorem zyrun_ok (hT : zyT ρ τ σ) : ∀ (n : Nat) (E : zyE) (d j pc : Nat) (lv : zyLv) (st : List zyV) (A : zyM) (outs : List (zyE × zyO × zyM)) (lw : zLv) (w : List Value) (M : zMem), zyrun τ n E d j pc lv st A = some outs → zyK ρ E → zyLR ρ lv lw → zyRs ρ st w → zyMR ρ A M → ∃ q ∈ outs, ∃ o M', zyK ρ q.1 ∧ zyOR ρ q.2.1 o ∧ zyMR ρ q.2.2 M' ∧ zEv σ d j pc lw w M o M' := by
  intro n
  induction n with
  | zero => intro E d j pc lv st A outs lw w M h; cases h
  | succ n ih =>
    intro E d j pc lv st A outs lw w M h hK hl hs hM
    rw [zyrun] at h
    cases hf : zfe j pc with
    | none => simp only [hf] at h; cases h
    | some x =>
      obtain ⟨i, len⟩ := x
      simp only [hf] at h
      cases hc : zycut E i st with
      | some sp =>
        obtain ⟨s, p⟩ := sp
        simp only [hc] at h
        cases h1 : zyrun τ n ((s, (zyiv E s).1, p - 1) :: E) d j pc lv st A with
        | none => simp only [h1] at h; cases h
        | some l1 =>
          simp only [h1] at h
          cases h2 : zyrun τ n ((s, p, (zyiv E s).2) :: E) d j pc lv st A with
          | none => simp only [h2] at h; cases h
          | some l2 =>
            simp only [h2] at h
            cases h
            have hiv := zyiv_ok hK s
            by_cases hp : (ρ s).toInt < p
            · have hK1 : zyK ρ ((s, (zyiv E s).1, p - 1) :: E) := by
                intro q hq
                rcases List.mem_cons.mp hq with rfl | hq
                · exact ⟨hiv.1, Int.le_sub_one_of_lt hp⟩
                · exact hK q hq
              obtain ⟨q, hq, r⟩ := ih _ _ _ _ _ _ _ _ _ _ _ h1 hK1 hl hs hM
              exact ⟨q, List.mem_append_left _ hq, r⟩
            · have hK1 : zyK ρ ((s, p, (zyiv E s).2) :: E) := by
                intro q hq
                rcases List.mem_cons.mp hq with rfl | hq
                · exact ⟨Int.not_lt.mp hp, hiv.2⟩
                · exact hK q hq
              obtain ⟨q, hq, r⟩ := ih _ _ _ _ _ _ _ _ _ _ _ h2 hK1 hl hs hM
              exact ⟨q, List.mem_append_right _ hq, r⟩
      | none =>
        simp only [hc] at h
        cases hp : zyP E (j / 200) i pc lv st with
        | some y =>
          obtain ⟨pc', lv', st'⟩ := y
          simp only [hp] at h
          obtain ⟨lw', w', e1, e2, e3⟩ := zyP_ok hK hp hl hs
          obtain ⟨q, hq, o, M', r1, r2, r3, r4⟩ := ih _ _ _ _ _ _ _ _ _ _ _ h hK e2 e3 hM
          exact ⟨q, hq, o, M', r1, r2, r3, zeP hf e1 r4⟩
        | none =>
          simp only [hp] at h
          cases hS : zyS τ E (j / 200) i pc st A with
          | some y =>
            obtain ⟨pc', st', A'⟩ := y
            simp only [hS] at h
            obtain ⟨e0, w', M1, e1, e2, e3⟩ := zyS_ok (ini := zini j) (lw := lw) hT hK hS hs hM
            obtain ⟨q, hq, o, M', r1, r2, r3, r4⟩ := ih _ _ _ _ _ _ _ _ _ _ _ h hK hl e2 e3
            exact ⟨q, hq, o, M', r1, r2, r3, zeS hf e0 e1 r4⟩
          | none =>
            simp only [hS] at h
            cases hr : zyret j i st with
            | some v =>
              simp only [hr] at h
              cases h
              obtain ⟨e0, e1, x, e2, e3⟩ := zyret_ok (c := j / 200) (pc := pc) (lw := lw) (ini := zini j) (M := M) (σ := σ) hr hs
              exact ⟨_, List.mem_singleton.mpr rfl, .inl x, M, hK, e3, hM, zeR hf e0 e1 e2⟩
            | none =>
              simp only [hr] at h
              cases ht : zthr j pc with
              | some e =>
                simp only [ht] at h
                rw [cond_eq_ite] at h
                split at h
                · rename_i hb
                  cases h
                  rw [Bool.and_eq_true] at hb
                  have hn := hb.2
                  cases i
                  case new idx =>
                    refine ⟨_, List.mem_singleton.mpr rfl, .inr e, zthM M, hK, rfl, ⟨hM.1, hM.2.1, hM.2.2.1, ?_⟩, zeT hf rfl ?_ (zret_none (by intro e; cases e) (by intro e; cases e) (by intro e; cases e)) ht ?_⟩
                    · show (false, M.2.2.2.2.1 + 1, M.2.2.2.2.2 + 6) = (false, A.2.2.2.2.1 + 1, A.2.2.2.2.2 + 6)
                      rw [hM.2.2.2]
                    · simp only [zynew] at hn
                      simp only [zS, znew]
                      rw [Option.isNone_iff_eq_none.mp hn]
                    · rw [zysum_ok hs]
                      exact hb.1
                  all_goals cases hn
                · cases h
              | none =>
                simp only [ht] at h
                cases hca : zycall (j / 200) i st A with
                | none =>
                  simp only [hca] at h
                  cases hm : zymath E (j / 200) i pc st with
                  | none => simp only [hm] at h; cases h
                  | some y =>
                    obtain ⟨pc', st'⟩ := y
                    simp only [hm] at h
                    obtain ⟨e0, e1, e2, e3, w', e4, e5⟩ := zymath_ok (lw := lw) (ini := zini j) (j := j) (M := M) (σ := σ) hK hm hs
                    obtain ⟨q, hq, o, M', r1, r2, r3, r4⟩ := ih _ _ _ _ _ _ _ _ _ _ _ h hK hl e5 hM
                    exact ⟨q, hq, o, M', r1, r2, r3, zeM hf e0 e1 e2 ht e3 e4 r4⟩
                | some y =>
                  obtain ⟨j', as, rest⟩ := y
                  simp only [hca] at h
                  cases d with
                  | zero => simp only at h; cases h
                  | succ d =>
                    simp only at h
                    obtain ⟨e0, e1, e2, as', rest', e3, e4, e5⟩ := zycall_ok (pc := pc) (lw := lw) (ini := zini j) (j := j) (σ := σ) hca hs hM
                    cases hrun : (bif Nat.beq j' 1806 then zycop E as A else zyrun τ n E d j' 0 (zyarg j' as) [] A) with
                    | none => simp only [hrun] at h; cases h
                    | some l =>
                      simp only [hrun] at h
                      have key : ∃ q ∈ l, ∃ o M1, zyK ρ q.1 ∧ zyOR ρ q.2.1 o ∧ zyMR ρ q.2.2 M1 ∧ zCal σ d j' as' M o M1 := by
                        cases hb : Nat.beq j' 1806 with
                        | true =>
                          rw [hb, cond_true] at hrun
                          obtain rfl := Nat.eq_of_beq_eq_true hb
                          exact zycop_ok hrun hK e4 hM
                        | false =>
                          rw [hb, cond_false] at hrun
                          exact ih _ _ _ _ _ _ _ _ _ _ _ hrun hK (zyarg_ok e4) trivial hM
                      obtain ⟨q, hq, o, M1, r1, r2, r3, r4⟩ := key
                      obtain ⟨l1, h5, h6⟩ := zyall_mem h hq
                      obtain ⟨E1, o1, A1⟩ := q
                      dsimp only at r1 r2 r3
                      cases o1 with
                      | inl v =>
                        simp only [zyback] at h5
                        obtain ⟨x, rfl, hx⟩ := zyOR_l r2
                        obtain ⟨q, hq, o, M', t1, t2, t3, t4⟩ := ih _ _ _ _ _ _ _ _ _ _ _ h5 r1 hl (hx e5) r3
                        exact ⟨q, h6 q hq, o, M', t1, t2, t3, zeC hf e0 e1 e2 ht e3 r4 t4⟩
                      | inr e =>
                        obtain rfl := zyOR_r r2
                        simp only [zyback] at h5
                        cases hh : zhnd j pc e with
                        | some a =>
                          simp only [hh] at h5
                          cases h5
                          exact ⟨_, h6 _ (List.mem_singleton.mpr rfl), .inl (some (.int (Int32.ofNat a))), M1, r1, rfl, r3, zeH hf e0 e1 e2 ht e3 r4 hh⟩
                        | none =>
                          simp only [hh] at h5
                          cases hn : znoH j with
                          | false => rw [hn, cond_false] at h5; cases h5
                          | true =>
                            rw [hn, cond_true] at h5
                            cases h5
                            exact ⟨_, h6 _ (List.mem_singleton.mpr rfl), .inr e, M1, r1, rfl, r3, zeX hf e0 e1 e2 ht e3 r4 hh hn⟩
end ZYD
end
section
/-! the law's one round, by the kernel (written by program: wip/p1/gen37.py) -/
def zigs : List (Nat × Nat × Nat) := zig_0 ++ zig_1 ++ zig_2 ++ zig_3 ++ zig_4 ++ zig_5 ++ zig_6
def zycov (i k : Nat) : Bool := zigs.any (fun e => Nat.beq e.1 i && Nat.ble e.2.1 k && Nat.blt k (e.2.1 + e.2.2))
def zyY0 (i k : Nat) : zyV := bif zycov i k then .inl (.int (zmv i k)) else .inr none
def zyA0 : zyM := (zS1, zyY0, fun _ _ => none, true, 147, 7775)
def zyt (L : Nat) : Nat → Nat × (Nat → zyV) := fun n => match n with
  | 0 => (L, fun k => bif Nat.blt k 6 then .inr (some k) else .inr none)
  | n + 1 => ((zla n).length, fun k => .inl (.int ((zla n).getD k 0)))
def zyl0 : zyLv := [some (.inl (.ref 1000)), some (.inl (.ref 0)), some (.inl (.ref 137)), some (.inl (.ref 146)), some (.inl (.int 0)), none, none]
def zyok1 (q : zyE × zyO × zyM) : Bool := (match q.2.1 with
  | .inl (some (.inl (.int x))) => decide (x = 1)
  | _ => false) && Nat.ble q.2.2.2.2.2.2.1 200 && Nat.ble q.2.2.2.2.2.2.2 8000
def zyok (r : Option (List (zyE × zyO × zyM))) : Bool := match r with
  | some l => l.all zyok1
  | none => false
def zyq (lo hi : Nat) : Bool := zyok (zyrun (zyt 6) 3000 [(6, Int.ofNat lo, Int.ofNat hi)] 20 2024 40 zyl0 [.inr (some 6)] zyA0)
def zyq0 (L : Nat) : Bool := zyok (zyrun (zyt L) 100 [] 20 2024 23 zyl0 [] zyA0)
theorem zyq0_0 : zyq0 0 = true := by decide +kernel
theorem zyq0_1 : zyq0 1 = true := by decide +kernel
theorem zyq0_2 : zyq0 2 = true := by decide +kernel
theorem zyq0_3 : zyq0 3 = true := by decide +kernel
theorem zyq0_4 : zyq0 4 = true := by decide +kernel
theorem zyq0_5 : zyq0 5 = true := by decide +kernel
theorem zyq_d : zyq 34 63 = true := by decide +kernel
theorem zyq_1 : zyq 1 1 = true := by decide +kernel
theorem zyq_2 : zyq 2 2 = true := by decide +kernel
theorem zyq_3 : zyq 3 3 = true := by decide +kernel
theorem zyq_4 : zyq 4 4 = true := by decide +kernel
theorem zyq_5 : zyq 5 5 = true := by decide +kernel
theorem zyq_6 : zyq 6 6 = true := by decide +kernel
theorem zyq_7 : zyq 7 7 = true := by decide +kernel
theorem zyq_9 : zyq 9 9 = true := by decide +kernel
theorem zyq_11 : zyq 11 11 = true := by decide +kernel
theorem zyq_12 : zyq 12 12 = true := by decide +kernel
theorem zyq_13 : zyq 13 13 = true := by decide +kernel
theorem zyq_14 : zyq 14 14 = true := by decide +kernel
theorem zyq_15 : zyq 15 15 = true := by decide +kernel
theorem zyq_18 : zyq 18 18 = true := by decide +kernel
theorem zyq_19 : zyq 19 19 = true := by decide +kernel
theorem zyq_21 : zyq 21 21 = true := by decide +kernel
theorem zyq_22 : zyq 22 22 = true := by decide +kernel
theorem zyq_23 : zyq 23 23 = true := by decide +kernel
theorem zyq_24 : zyq 24 24 = true := by decide +kernel
theorem zyq_25 : zyq 25 25 = true := by decide +kernel
theorem zyq_27 : zyq 27 27 = true := by decide +kernel
theorem zyq_28 : zyq 28 28 = true := by decide +kernel
theorem zyq_29 : zyq 29 29 = true := by decide +kernel
theorem zyq_30 : zyq 30 30 = true := by decide +kernel
theorem zyq_31 : zyq 31 31 = true := by decide +kernel
theorem zyq_32 : zyq 32 32 = true := by decide +kernel
theorem zyq_33 : zyq 33 33 = true := by decide +kernel
end
section
/-! the law's one round, by the kernel: the longer ones -/
theorem zyq_0 : zyq 0 0 = true := by decide +kernel
theorem zyq_8 : zyq 8 8 = true := by decide +kernel
theorem zyq_26 : zyq 26 26 = true := by decide +kernel
end
section
/-! the law's one round, by the kernel: the longer ones -/
theorem zyq_10 : zyq 10 10 = true := by decide +kernel
theorem zyq_17 : zyq 17 17 = true := by decide +kernel
end
section
/-! the law's one round, by the kernel: the longer ones -/
theorem zyq_20 : zyq 20 20 = true := by decide +kernel
end
section
/-! the law's one round, by the kernel: the longer ones -/
theorem zyq_16 : zyq 16 16 = true := by decide +kernel
end
section
/-! from the law's entry to its loop -/
theorem zrun_dep {σ : Nat → Nat × (Nat → Int32)} : ∀ (n d j pc : Nat) (lv : zLv) (st : List Value) (M : zMem) (r : zO × zMem), zrun σ n d j pc lv st M = some r → zrun σ n (d + 1) j pc lv st M = some r := by
  intro n
  induction n with
  | zero => intro d j pc lv st M r h; cases h
  | succ n ih =>
    intro d j pc lv st M r h
    rw [zrun] at h ⊢
    cases hf : zfe j pc with
    | none => simp only [hf] at h; cases h
    | some x =>
      obtain ⟨i, len⟩ := x
      simp only [hf] at h ⊢
      cases hp : zP (j / 200) i pc lv st with
      | some y =>
        obtain ⟨a, b, c⟩ := y
        simp only [hp] at h ⊢
        exact ih _ _ _ _ _ _ _ h
      | none =>
        simp only [hp] at h ⊢
        cases hs : zS σ (j / 200) (zini j) i pc st M with
        | some y =>
          obtain ⟨a, b, c⟩ := y
          simp only [hs] at h ⊢
          exact ih _ _ _ _ _ _ _ h
        | none =>
          simp only [hs] at h ⊢
          cases hr : zret j i st with
          | some v => simp only [hr] at h ⊢; exact h
          | none =>
            simp only [hr] at h ⊢
            cases ht : zthr j pc with
            | some e0 => simp only [ht] at h ⊢; exact h
            | none =>
              simp only [ht] at h ⊢
              cases hc : zcall (j / 200) i st M with
              | none =>
                simp only [hc] at h ⊢
                cases hm : zmath (j / 200) i pc st with
                | none => simp only [hm] at h; cases h
                | some y =>
                  obtain ⟨a, b⟩ := y
                  simp only [hm] at h ⊢
                  exact ih _ _ _ _ _ _ _ h
              | some y =>
                obtain ⟨j', as, rest⟩ := y
                simp only [hc] at h ⊢
                cases d with
                | zero => simp only at h; cases h
                | succ d =>
                  simp only at h
                  cases hz : zrun σ n d j' 0 (zarg j' as) [] M with
                  | none => simp only [hz] at h; cases h
                  | some z =>
                    rw [ih _ _ _ _ _ _ _ hz]
                    obtain ⟨o, M1⟩ := z
                    simp only [hz] at h
                    cases o with
                    | inl v =>
                      simp only at h ⊢
                      exact ih _ _ _ _ _ _ _ h
                    | inr e0 =>
                      simp only at h ⊢
                      exact h
theorem zCal_dep {σ : Nat → Nat × (Nat → Int32)} {d j : Nat} {as : List Value} {M M' : zMem} {o : zO} (h : zCal σ d j as M o M') : ∀ k, zCal σ (d + k) j as M o M' := by
  intro k
  induction k with
  | zero => exact h
  | succ k ih =>
    obtain ⟨n, hn⟩ := ih
    exact ⟨n, zrun_dep _ _ _ _ _ _ _ _ hn⟩
def zlw0 : zLv := [some (.ref 1000), some (.ref 0), some (.ref 137), some (.ref 146), some (.int 0), none, none]
theorem znew_1 {σ : Nat → Nat × (Nat → Int32)} : zS σ 10 false (.new 8) 0 [] zMe = some (3, [.ref 0], zA1) := rfl
theorem znew_2 {σ : Nat → Nat × (Nat → Int32)} : zS σ 10 false (.new 96) 8 [] zM1 = some (11, [.ref 137], zA2) := by
  have h : (zcp 10).lookup 96 = some (9, 1295) := rfl
  simp only [zS, znew, h, zM1_len.1, zM1_len.2, Bool.true_and]
  rfl
theorem znew_3 {σ : Nat → Nat × (Nat → Int32)} : zS σ 10 false (.newarray .long) 17 [.int (Int32.ofInt 1)] zM2 = some (19, [.ref 146], zM3) := by
  have h : (Int32.ofInt 1).toNatClampNeg = 1 := by decide
  have h2 : decide (¬ Int32.ofInt 1 < 0) = true := by decide
  simp only [zS, znewa, h, h2, zM2_len.1, zM2_len.2, Bool.true_and]
  rfl
theorem zlaw_pre {σ : Nat → Nat × (Nat → Int32)} {o : zO} {M' : zMem} (h : zEv σ 20 2024 23 zlw0 [] zM3 o M') : zEv σ 20 2024 0 (zarg 2024 [.ref 1000]) [] zMe o M' := by
  have c1 : zCal σ 19 1600 [.ref 0] zA1 (.inl none) zM1 := zCal_dep (d := 10) ⟨3000, zrun0_up σ _ _ _ _ _ _ _ _ _ zR1_eq⟩ 9
  have c2 : zCal σ 19 1805 [.ref 137] zA2 (.inl none) zM2 := zCal_dep (d := 10) ⟨3000, zrun0_up σ _ _ _ _ _ _ _ _ _ zR2_eq⟩ 9
  show zEv σ 20 2024 0 [some (.ref 1000), none, none, none, none, none, none] [] zMe o M'
  refine zeS (i := .new 8) (len := 3) rfl rfl znew_1 ?_
  refine zeP (i := .dup) (len := 1) rfl rfl ?_
  refine zeC (i := .invokespecial 95) (len := 3) (j' := 1600) (as := [.ref 0]) (rest := [.ref 0]) rfl rfl rfl rfl rfl rfl c1 ?_
  show zEv σ 20 2024 7 [some (.ref 1000), none, none, none, none, none, none] [.ref 0] zM1 o M'
  refine zeP (i := .astore_n 1) (len := 1) rfl rfl ?_
  refine zeS (i := .new 96) (len := 3) rfl rfl znew_2 ?_
  refine zeP (i := .dup) (len := 1) rfl rfl ?_
  refine zeC (i := .invokespecial 98) (len := 3) (j' := 1805) (as := [.ref 137]) (rest := [.ref 137]) rfl rfl rfl rfl rfl rfl c2 ?_
  show zEv σ 20 2024 15 [some (.ref 1000), some (.ref 0), none, none, none, none, none] [.ref 137] zM2 o M'
  refine zeP (i := .astore_n 2) (len := 1) rfl rfl ?_
  refine zeP (i := .iconst 1) (len := 1) rfl rfl ?_
  refine zeS (i := .newarray .long) (len := 2) rfl rfl znew_3 ?_
  refine zeP (i := .astore_n 3) (len := 1) rfl rfl ?_
  refine zeP (i := .iconst 0) (len := 1) rfl rfl ?_
  refine zeP (i := .istore 4) (len := 2) rfl rfl ?_
  exact h
end
section
/-! the first call, for every script of at most 6 ints -/
theorem zprod3 {α β γ : Type} (p : α × β × γ) {a : α} {b : β} {c : γ} (h1 : p.1 = a) (h2 : p.2.1 = b) (h3 : p.2.2 = c) : p = (a, b, c) := by
  obtain ⟨x, y, z⟩ := p
  cases h1; cases h2; cases h3; rfl
theorem zyMR0 (ρ : Nat → Int32) : zyMR ρ zyA0 zM3 := by
  refine ⟨zM3_S, fun i k => ?_, fun i k x h => (by have h' : (none : Option Int64) = some x := h; cases h'), ?_⟩
  · show zyR ρ (zyY0 i k) (.int (zM3.2.1 i k))
    unfold zyY0
    cases hc : zycov i k with
    | false => rw [cond_false]; exact ⟨_, rfl⟩
    | true =>
      rw [cond_true]
      show Value.int (zM3.2.1 i k) = .int (zmv i k)
      have all : ∀ e ∈ zigs, ∀ l, l < e.2.2 → zM3.2.1 e.1 (e.2.1 + l) = zmv e.1 (e.2.1 + l) := by
        intro e he l hl
        have key : ∀ g : List (Nat × Nat × Nat), g.all (fun e => (List.range e.2.2).all (fun k => decide (zM3.2.1 e.1 (e.2.1 + k) = zmv e.1 (e.2.1 + k)))) = true → e ∈ g → zM3.2.1 e.1 (e.2.1 + l) = zmv e.1 (e.2.1 + l) := by
          intro g hg hm
          exact of_decide_eq_true (List.all_eq_true.mp (List.all_eq_true.mp hg e hm) l (List.mem_range.mpr hl))
        unfold zigs at he
        rw [List.mem_append, List.mem_append, List.mem_append, List.mem_append, List.mem_append, List.mem_append] at he
        rcases he with (((((he | he) | he) | he) | he) | he) | he
        · exact key _ zi_0 he
        · exact key _ zi_1 he
        · exact key _ zi_2 he
        · exact key _ zi_3 he
        · exact key _ zi_4 he
        · exact key _ zi_5 he
        · exact key _ zi_6 he
      unfold zycov at hc
      obtain ⟨e, he, hb⟩ := List.any_eq_true.mp hc
      rw [Bool.and_eq_true, Bool.and_eq_true] at hb
      have h1 : e.1 = i := Nat.eq_of_beq_eq_true hb.1.1
      have h2 : e.2.1 ≤ k := Nat.le_of_ble_eq_true hb.1.2
      have h3 : k < e.2.1 + e.2.2 := Nat.le_of_ble_eq_true hb.2
      have h4 := all e he (k - e.2.1) (by omega)
      rw [Nat.add_sub_cancel' h2, h1] at h4
      rw [h4]
  · obtain ⟨a, b, c⟩ := zM3_n
    exact zprod3 _ a b c
def zyro (xs : Nat → Int32) : Nat → Int32 := fun k => if k = 6 then xs 0 &&& 63 else xs k
theorem zyT0 (L : Nat) (xs : Nat → Int32) : zyT (zyro xs) (zyt L) (zsig L xs) := by
  intro n
  cases n with
  | zero =>
    refine ⟨rfl, fun k => ?_⟩
    show zyR _ (bif Nat.blt k 6 then .inr (some k) else .inr none) (.int (xs k))
    cases hb : Nat.blt k 6 with
    | false => rw [cond_false]; exact ⟨_, rfl⟩
    | true =>
      rw [cond_true]
      have h : k < 6 := Nat.le_of_ble_eq_true hb
      show Value.int (xs k) = .int (zyro xs k)
      unfold zyro
      rw [if_neg (by omega)]
  | succ n => exact ⟨rfl, fun k => rfl⟩
theorem zyLR0 (ρ : Nat → Int32) : zyLR ρ zyl0 zlw0 := by
  refine ⟨rfl, fun k v h => ?_⟩
  match k, h with
  | 0, h => cases h; exact ⟨_, rfl, rfl⟩
  | 1, h => cases h; exact ⟨_, rfl, rfl⟩
  | 2, h => cases h; exact ⟨_, rfl, rfl⟩
  | 3, h => cases h; exact ⟨_, rfl, rfl⟩
  | 4, h => cases h; exact ⟨_, rfl, rfl⟩
  | 5, h => exact absurd h (by intro q; cases q)
  | 6, h => exact absurd h (by intro q; cases q)
  | n + 7, h => exact absurd h (by intro q; cases q)
def zP1 (σ : Nat → Nat × (Nat → Int32)) (pc : Nat) (w : List Value) : Prop := ∃ M', zEv σ 20 2024 pc zlw0 w zM3 (.inl (some (.int 1))) M' ∧ M'.2.2.2.2.1 ≤ 200 ∧ M'.2.2.2.2.2 ≤ 8000
theorem zyfin {L n pc : Nat} {xs : Nat → Int32} {E : zyE} {st : List zyV} {w : List Value} (h : zyok (zyrun (zyt L) n E 20 2024 pc zyl0 st zyA0) = true) (hK : zyK (zyro xs) E) (hs : zyRs (zyro xs) st w) : zP1 (zsig L xs) pc w := by
  cases hr : zyrun (zyt L) n E 20 2024 pc zyl0 st zyA0 with
  | none => rw [hr] at h; cases h
  | some l =>
    rw [hr] at h
    obtain ⟨q, hq, o, M', r1, r2, r3, r4⟩ := zyrun_ok (zyT0 L xs) n E 20 2024 pc zyl0 st zyA0 l zlw0 w zM3 hr hK (zyLR0 _) hs (zyMR0 _)
    have h1 : zyok1 q = true := List.all_eq_true.mp h q hq
    unfold zyok1 at h1
    rw [Bool.and_eq_true, Bool.and_eq_true] at h1
    obtain ⟨⟨h1, h2⟩, h3⟩ := h1
    obtain ⟨E1, o1, A1⟩ := q
    dsimp only at h1 h2 h3 r1 r2 r3
    have e4 := r3.2.2.2
    split at h1
    · rename_i x
      have hx : x = 1 := of_decide_eq_true h1
      subst hx
      cases o with
      | inr e => exact absurd r2 (fun q => q)
      | inl y =>
        cases y with
        | none => exact absurd r2 (fun q => q)
        | some y =>
          have hy : y = .int 1 := r2
          subst hy
          refine ⟨M', r4, ?_, ?_⟩
          · rw [e4]; exact Nat.le_of_ble_eq_true h2
          · rw [e4]; exact Nat.le_of_ble_eq_true h3
    · cases h1
theorem zand63 (x : Int32) : ∃ k : Nat, k ≤ 63 ∧ (x &&& 63).toInt = Int.ofNat k := by
  refine ⟨(x &&& 63).toBitVec.toNat, ?_, ?_⟩
  · rw [Int32.toBitVec_and, BitVec.toNat_and]
    exact Nat.and_le_right
  · have h : (x &&& 63).toBitVec.toNat ≤ 63 := by
      rw [Int32.toBitVec_and, BitVec.toNat_and]
      exact Nat.and_le_right
    exact BitVec.toInt_eq_toNat_of_lt (by omega)
theorem zyqs : ∀ k : Nat, k < 34 → zyq k k = true := by
  intro k hk
  match k, hk with
  | 0, _ => exact zyq_0
  | 1, _ => exact zyq_1
  | 2, _ => exact zyq_2
  | 3, _ => exact zyq_3
  | 4, _ => exact zyq_4
  | 5, _ => exact zyq_5
  | 6, _ => exact zyq_6
  | 7, _ => exact zyq_7
  | 8, _ => exact zyq_8
  | 9, _ => exact zyq_9
  | 10, _ => exact zyq_10
  | 11, _ => exact zyq_11
  | 12, _ => exact zyq_12
  | 13, _ => exact zyq_13
  | 14, _ => exact zyq_14
  | 15, _ => exact zyq_15
  | 16, _ => exact zyq_16
  | 17, _ => exact zyq_17
  | 18, _ => exact zyq_18
  | 19, _ => exact zyq_19
  | 20, _ => exact zyq_20
  | 21, _ => exact zyq_21
  | 22, _ => exact zyq_22
  | 23, _ => exact zyq_23
  | 24, _ => exact zyq_24
  | 25, _ => exact zyq_25
  | 26, _ => exact zyq_26
  | 27, _ => exact zyq_27
  | 28, _ => exact zyq_28
  | 29, _ => exact zyq_29
  | 30, _ => exact zyq_30
  | 31, _ => exact zyq_31
  | 32, _ => exact zyq_32
  | 33, _ => exact zyq_33
  | n + 34, h => exact absurd h (by omega)
theorem zyq0s : ∀ L : Nat, L < 6 → zyq0 L = true := by
  intro L hL
  match L, hL with
  | 0, _ => exact zyq0_0
  | 1, _ => exact zyq0_1
  | 2, _ => exact zyq0_2
  | 3, _ => exact zyq0_3
  | 4, _ => exact zyq0_4
  | 5, _ => exact zyq0_5
  | n + 6, h => exact absurd h (by omega)
theorem zp1_40 (xs : Nat → Int32) : zP1 (zsig 6 xs) 40 [.int (xs 0 &&& 63)] := by
  obtain ⟨k, hk, he⟩ := zand63 (xs 0)
  have h6 : (zyro xs 6).toInt = Int.ofNat k := by
    unfold zyro
    rw [if_pos rfl]; exact he
  have hs : zyRs (zyro xs) [.inr (some 6)] [.int (xs 0 &&& 63)] := by
    refine ⟨?_, trivial⟩
    show Value.int (xs 0 &&& 63) = .int (zyro xs 6)
    unfold zyro
    rw [if_pos rfl]
  by_cases h34 : k < 34
  · refine zyfin (zyqs k h34) (fun q hq => ?_) hs
    cases List.mem_singleton.mp hq
    show Int.ofNat k ≤ (zyro xs 6).toInt ∧ (zyro xs 6).toInt ≤ Int.ofNat k
    rw [h6]
    exact ⟨Int.le_refl _, Int.le_refl _⟩
  · refine zyfin zyq_d (fun q hq => ?_) hs
    cases List.mem_singleton.mp hq
    show Int.ofNat 34 ≤ (zyro xs 6).toInt ∧ (zyro xs 6).toInt ≤ Int.ofNat 63
    rw [h6]
    exact ⟨Int.ofNat_le.mpr (Nat.le_of_not_lt h34), Int.ofNat_le.mpr hk⟩
theorem zp1_23 (xs : Nat → Int32) : zP1 (zsig 6 xs) 23 [] := by
  obtain ⟨M', h, h1, h2⟩ := zp1_40 xs
  refine ⟨M', ?_, h1, h2⟩
  unfold zlw0 at h ⊢
  refine zeP (i := .iload 4) (len := 2) rfl rfl ?_
  refine zeP (i := .aload_n 0) (len := 1) rfl rfl ?_
  refine zeS (i := .arraylength) (len := 1) rfl rfl rfl ?_
  refine zeP (i := .bipush 6) (len := 2) rfl rfl ?_
  refine zeP (i := .isub) (len := 1) rfl rfl ?_
  refine zeP (i := .if_icmp .gt 1916) (len := 3) (pc' := 33) (lv' := [some (.ref 1000), some (.ref 0), some (.ref 137), some (.ref 146), some (.int 0), none, none]) (st' := []) rfl ?_ ?_
  · have hb : zc2 .gt 0 (Int32.ofNat 6 - (Int8.ofInt 6).toInt32) = false := by decide +kernel
    show zbr (zc2 .gt 0 (Int32.ofNat 6 - (Int8.ofInt 6).toInt32)) 30 1916 [some (.ref 1000), some (.ref 0), some (.ref 137), some (.ref 146), some (.int 0), none, none] [] = _
    unfold zbr
    rw [hb]
    rfl
  refine zeP (i := .aload_n 0) (len := 1) rfl rfl ?_
  refine zeP (i := .iload 4) (len := 2) rfl rfl ?_
  refine zeS (i := .iaload) (len := 1) (pc' := 37) (st' := [.int (xs 0)]) (M1 := zM3) rfl rfl ?_ ?_
  · have hb : zoutB 0 6 = false := by decide +kernel
    have h0 : ziald (zsig 6 xs) 36 [.int 0, .ref 1000] zM3 = (bif !zoutB 0 6 then some (37, [.int (xs 0)], zM3) else none) := rfl
    show ziald (zsig 6 xs) 36 [.int 0, .ref 1000] zM3 = some (37, [.int (xs 0)], zM3)
    rw [h0, hb]
    rfl
  refine zeP (i := .bipush 63) (len := 2) rfl rfl ?_
  refine zeP (i := .iand) (len := 1) (pc' := 40) (lv' := [some (.ref 1000), some (.ref 0), some (.ref 137), some (.ref 146), some (.int 0), none, none]) (st' := [.int (xs 0 &&& 63)]) rfl ?_ h
  rfl
theorem whole_start {p : Program} {e : Env} {s : State} {m : MethodId} {below : List Frame} {meth : Method} {c : Code} (l : Launch) (hflags : l.flags = flags0) {b L : Nat} {xs : Nat → Int32} (hL : L ≤ 6) (C0 : lw_At p s m meth c b L xs) : W p l e room_1 s m #[Value.ref b] below meth c s.heap [] 0 0 (lw_Z below #[Value.ref b] s) (entryFrame m ([Value.ref b] : List Value).toArray 7) := by
  have key : zP1 (zsig L xs) 23 [] := by
    by_cases h6 : L < 6
    · exact zyfin (zyq0s L h6) (fun q hq => by cases hq) trivial
    · have e6 : L = 6 := by omega
      subst e6
      exact zp1_23 xs
  obtain ⟨M', h, h1, h2⟩ := key
  exact zclose l hflags C0 (zlaw_pre h) (Nat.le_trans h1 (by decide)) (Nat.le_trans h2 (by decide))
end
section
set_option maxHeartbeats 4000000 in
theorem lw_walk (l : Launch) (hflags : l.flags = flags0) (b : Addr) (xs : List Int32) : MetFree l x (headSpec (Jvm.Cond.code x code maxLocals ret :: tables_1) room_1) (lw_P b xs) (fun _ _ _ _ _ => True) lw_Q := by
  refine MetFree.of_bodyS (code := code) (maxLocals := maxLocals) (ret := ret) (by decide) ?_ ?_
  · intro args s m h hn
    obtain ⟨meth, c, h1, h2, h3, h4, h5, h6, -, -⟩ := Cond.code_spec hn (atoms_spec (ws := Jvm.Cond.code x code maxLocals ret :: tables_1) h _ List.mem_cons_self)
    exact ⟨meth, c, h1, h2, h3, h4, h5, h6⟩
  · intro p e s m args below meth c s₁ B hml0 hP _
    obtain ⟨rfl, hx, hbd, hgv⟩ := hP
    obtain ⟨scr, harrAt, hlist, hof, hsmall⟩ := hx
    obtain ⟨hcb, hkn, -, -⟩ := State.arrayAt?_spec harrAt
    have hown : s.vm.findClass R_law = some m.cls := findClass_of_methodNamed B.named
    have hts0 : ∀ c ∈ (Jvm.Cond.code x code maxLocals ret :: tables_1), c.before #[Value.ref b] s = true := atoms_spec (ws := Jvm.Cond.code x code maxLocals ret :: tables_1) B.pre
    have hts : ∀ w ∈ lw_tbl, w.before #[Value.ref b] s = true := k2_hts_sels lw_privs (fun w hw => hts0 w (List.mem_cons_of_mem _ hw)) lw_privs_ok
    have hml : c.maxLocals = 7 := B.maxLocals_eq (hts0 _ List.mem_cons_self)
    have X₀ : Stand p l e room_1 s m #[Value.ref b] below meth c s₁ [] 0 0 := Stand.of_body B
    have hh0 : s₁.heap = s.heap := by rw [B.state]; rfl
    have hsz : scr.slots.size = xs.length := by rw [← Array.length_toList, hlist, List.length_map]
    have hval : ∀ j : Nat, j < xs.length → scr.slots[j]? = some (.int (xs.getD j 0)) := fun j hj => by
      rw [← Array.getElem?_toList, hlist]
      simp [hj]
    have hbl : b < s.heap.size := (Array.getElem?_eq_some_iff.mp hcb).1
    have hX : va_X b xs.length (fun j => xs.getD j 0) s s.heap := ⟨scr, hcb, hof, hkn, hsz, hval⟩
    have K : W p l e room_1 s m #[Value.ref b] below meth c s₁.heap [] 0 0 (lw_Z below #[Value.ref b] s) (entryFrame m ([Value.ref b] : List Value).toArray 7) := by
      rw [hh0]
      exact whole_start l hflags hbd ⟨B.exec, B.bytes, B.returns, hml, hown, hts, hX, hbl, B.notSynchronized, hgv⟩
    obtain ⟨t, a1, o, b1, b2, b3⟩ := K s₁ rfl X₀
    exact ⟨t, o, a1, b1, b2, b3⟩
theorem lw_pre_spec {args : Array Value} {s : State} (h : (Jvm.Cond.and given_1 narrow_1).before args s = true) (hr : rest_1_c.before args s = true) : ∃ (b : Addr) (xs : List Int32), lw_P b xs args s := by
  have hs := flat_of_before _ h
  have hq := flat_of_before _ hr
  have hc : (Cond.count 1).before args s = true := hs _ (by decide +kernel)
  have harr : (Cond.arrayOf (.arg 0) .int).before args s = true := hs _ (by decide +kernel)
  have hle : (Cond.le (.length (.arg 0)) (.int 6)).before args s = true := hs _ (by decide +kernel)
  have hlen : (Cond.isInt (.length (.arg 0))).before args s = true := hq _ (by decide +kernel)
  have hall : (Cond.all (.arg 0) (.isInt (.elem (.arg 0) (.index 0)))).before args s = true := hq _ (by decide +kernel)
  obtain ⟨b, xs, hb, hx⟩ := State.ints_of_pre rfl harr hlen hall
  have hsm : xs.length < 2 ^ 31 := hx.choose_spec.2.2.2
  have hev : (Term.length (.arg 0)).eval args s none [] s = some (.int xs.length.toInt32) := hx.length_eval hb
  have hv := Cond.le_ints hev (show (Term.int 6).eval args s none [] s = some (.int 6) from rfl)
  have hd : xs.length.toInt32 ≤ 6 := by
    simpa [Cond.before, Cond.holds, hv] using hle
  have hN : xs.length ≤ 6 := (Int32.ofNat_le_ofNat hsm (by decide)).mp (show Int32.ofNat xs.length ≤ Int32.ofNat 6 from hd)
  exact ⟨b, xs, Cond.one_arg hc (show args[0]? = some (.ref b) from hb), hx, hN, h⟩
theorem lw_comes (l : Launch) (hflags : l.flags = flags0) : Comes l x (Jvm.Cond.code x code maxLocals ret :: tables_1) room_1 (fun tb e args s => Calls_1 tb e args s ∧ rest_1 tb e args s ∧ Pre_1 tb e args s)
    (fun _ _ args s o t => lw_Q args s o t) := by
  intro p e ha hc hk s m args below hf hfit hheap happ hpre
  obtain ⟨b, xs, hP⟩ := lw_pre_spec hpre.2.2 hpre.2.1
  obtain ⟨k, o, h1, h2, h3, hQ⟩ := lw_walk l hflags b xs p e ha hc hk s m args below hf ((Spec.applies_iff_loose hf).mp happ).1 hP trivial
  exact ⟨k, o, h1, h2, h3, hQ⟩
theorem lw_frame {s t : State} {o : Outcome} {args : Array Value} (h : Framed s o t [] 600002 7302232) :
    Framed s o t (fieldLocs frame_1_writes args s ++ arrayLocs frame_1_arrays args s ++ staticLocs frame_1_statics s) 600002 7302232 := h
theorem lw_limb (L : Cond) (hL : ∀ (args : Array Value) (s t : State), L.after args s (.returned (some (.int 1))) t = true) :
    ArmFor flags0 classFile x code maxLocals ret World_1 tables_1 room_1 Calls_1 rest_1 Pre_1
      (fun tb e a s o t => postC L tb e a s o t ∧ Framed s o t (fieldLocs frame_1_writes a s ++ arrayLocs frame_1_arrays a s ++ staticLocs frame_1_statics s) 600002 7302232) := by
  intro l hflags _ _ p e ha hc hk s m args below hf hfit hheap happ hpre
  obtain ⟨k, o, h1, h2, h3, rfl, hF⟩ := lw_comes l hflags p e ha hc hk s m args below hf hfit hheap happ hpre
  exact ⟨k, _, h1, h2, h3, hL args s _, lw_frame hF⟩
theorem i_vc : Claimed_1_1 ∧ Claimed_1_2 := ⟨lw_limb limb_1_1 (fun args s t => by simp [limb_1_1, Cond.after, Cond.holds, Cond.value]), lw_limb limb_1_2 (fun args s t => Cond.after_iff.mpr (by
  first | (rw [show limb_1_2 = Cond.eq .result (.int 1) from rfl, Cond.eq_ints (x := 1) (y := 1) rfl rfl]; simp; done) | (simp [limb_1_2, Cond.value, Term.eval]; done)))⟩
end
