theorem zd_0_0_0 : zkall cX0_init zk_0_0_0 = true := by decide +kernel
theorem zd_0_0 : zkall cX0_init zk_0_0 = true := zd_0_0_0
theorem zd_0_1_0 : zkall cX0_copyFrom zk_0_1_0 = true := by decide +kernel
theorem zd_0_1 : zkall cX0_copyFrom zk_0_1 = true := zd_0_1_0
theorem zd_0_2_0 : zkall cX0_begin zk_0_2_0 = true := by decide +kernel
theorem zd_0_2 : zkall cX0_begin zk_0_2 = true := zd_0_2_0
theorem zd_0_3_0 : zkall cX0_close zk_0_3_0 = true := by decide +kernel
theorem zd_0_3 : zkall cX0_close zk_0_3 = true := zd_0_3_0
theorem zd_0_4_0 : zkall cX0_leavesOut zk_0_4_0 = true := by decide +kernel
theorem zd_0_4 : zkall cX0_leavesOut zk_0_4 = true := zd_0_4_0
theorem zd_0_5_0 : zkall cX0_leaveOut zk_0_5_0 = true := by decide +kernel
theorem zd_0_5 : zkall cX0_leaveOut zk_0_5 = true := zd_0_5_0
theorem zd_0_6_0 : zkall cX0_latestLeftOut zk_0_6_0 = true := by decide +kernel
theorem zd_0_6 : zkall cX0_latestLeftOut zk_0_6 = true := zd_0_6_0
theorem zd_0_7_0 : zkall cX0_write zk_0_7_0 = true := by decide +kernel
theorem zd_0_7 : zkall cX0_write zk_0_7 = true := zd_0_7_0
theorem zd_0_8_0 : zkall cX0_hasValue zk_0_8_0 = true := by decide +kernel
theorem zd_0_8 : zkall cX0_hasValue zk_0_8 = true := zd_0_8_0
theorem zd_1_0_0 : zkall cX1_init zk_1_0_0 = true := by decide +kernel
theorem zd_1_0 : zkall cX1_init zk_1_0 = true := zd_1_0_0
theorem zd_1_1_0 : zkall cX1_copyFrom zk_1_1_0 = true := by decide +kernel
theorem zd_1_1 : zkall cX1_copyFrom zk_1_1 = true := zd_1_1_0
theorem zd_1_2_0 : zkall cX1_gain zk_1_2_0 = true := by decide +kernel
theorem zd_1_2 : zkall cX1_gain zk_1_2 = true := zd_1_2_0
theorem zd_1_3_0 : zkall cX1_lose zk_1_3_0 = true := by decide +kernel
theorem zd_1_3 : zkall cX1_lose zk_1_3 = true := zd_1_3_0
theorem zd_2_0_0 : zkall cX2_init zk_2_0_0 = true := by decide +kernel
theorem zd_2_0 : zkall cX2_init zk_2_0 = true := zd_2_0_0
theorem zd_2_1_0 : zkall cX2_copyFrom zk_2_1_0 = true := by decide +kernel
theorem zd_2_1 : zkall cX2_copyFrom zk_2_1 = true := zd_2_1_0
theorem zd_2_2_0 : zkall cX2_add zk_2_2_0 = true := by decide +kernel
theorem zd_2_2 : zkall cX2_add zk_2_2 = true := zd_2_2_0
theorem zd_2_3_0 : zkall cX2_cell zk_2_3_0 = true := by decide +kernel
theorem zd_2_3 : zkall cX2_cell zk_2_3 = true := zd_2_3_0
theorem zd_3_0_0 : zkall cX3_init zk_3_0_0 = true := by decide +kernel
theorem zd_3_0_1 : zkall cX3_init zk_3_0_1 = true := by decide +kernel
theorem zd_3_0 : zkall cX3_init zk_3_0 = true := zkall_app zd_3_0_0 (zd_3_0_1)
theorem zd_3_1_0 : zkall cX3_copyFrom zk_3_1_0 = true := by decide +kernel
theorem zd_3_1_1 : zkall cX3_copyFrom zk_3_1_1 = true := by decide +kernel
theorem zd_3_1 : zkall cX3_copyFrom zk_3_1 = true := zkall_app zd_3_1_0 (zd_3_1_1)
theorem zd_3_2_0 : zkall cX3_strandAt zk_3_2_0 = true := by decide +kernel
theorem zd_3_2 : zkall cX3_strandAt zk_3_2 = true := zd_3_2_0
theorem zd_3_3_0 : zkall cX3_lockAt zk_3_3_0 = true := by decide +kernel
theorem zd_3_3 : zkall cX3_lockAt zk_3_3 = true := zd_3_3_0
theorem zd_3_4_0 : zkall cX3_blockBit zk_3_4_0 = true := by decide +kernel
theorem zd_3_4 : zkall cX3_blockBit zk_3_4 = true := zd_3_4_0
theorem zd_3_5_0 : zkall cX3_seenBy zk_3_5_0 = true := by decide +kernel
theorem zd_3_5 : zkall cX3_seenBy zk_3_5 = true := zd_3_5_0
theorem zd_3_6_0 : zkall cX3_isGuessing zk_3_6_0 = true := by decide +kernel
theorem zd_3_6 : zkall cX3_isGuessing zk_3_6 = true := zd_3_6_0
theorem zd_3_7_0 : zkall cX3_isDone zk_3_7_0 = true := by decide +kernel
theorem zd_3_7 : zkall cX3_isDone zk_3_7 = true := zd_3_7_0
theorem zd_3_8_0 : zkall cX3_nextByTurn zk_3_8_0 = true := by decide +kernel
theorem zd_3_8 : zkall cX3_nextByTurn zk_3_8 = true := zd_3_8_0
theorem zd_3_9_0 : zkall cX3_nextByDraw zk_3_9_0 = true := by decide +kernel
theorem zd_3_9 : zkall cX3_nextByDraw zk_3_9 = true := zd_3_9_0
theorem zd_3_10_0 : zkall cX3_draw zk_3_10_0 = true := by decide +kernel
theorem zd_3_10 : zkall cX3_draw zk_3_10 = true := zd_3_10_0
theorem zd_3_11_0 : zkall cX3_takeStep zk_3_11_0 = true := by decide +kernel
theorem zd_3_11 : zkall cX3_takeStep zk_3_11 = true := zd_3_11_0
theorem zd_3_12_0 : zkall cX3_moveOn zk_3_12_0 = true := by decide +kernel
theorem zd_3_12 : zkall cX3_moveOn zk_3_12 = true := zd_3_12_0
theorem zd_3_13_0 : zkall cX3_takePlainly zk_3_13_0 = true := by decide +kernel
theorem zd_3_13_1 : zkall cX3_takePlainly zk_3_13_1 = true := by decide +kernel
theorem zd_3_13 : zkall cX3_takePlainly zk_3_13 = true := zkall_app zd_3_13_0 (zd_3_13_1)
theorem zd_3_14_0 : zkall cX3_takeGuessing zk_3_14_0 = true := by decide +kernel
theorem zd_3_14 : zkall cX3_takeGuessing zk_3_14 = true := zd_3_14_0
theorem zd_3_15_0 : zkall cX3_dropLock zk_3_15_0 = true := by decide +kernel
theorem zd_3_15 : zkall cX3_dropLock zk_3_15 = true := zd_3_15_0
theorem zd_3_16_0 : zkall cX3_keep zk_3_16_0 = true := by decide +kernel
theorem zd_3_16 : zkall cX3_keep zk_3_16 = true := zd_3_16_0
theorem zd_3_17_0 : zkall cX3_getWord zk_3_17_0 = true := by decide +kernel
theorem zd_3_17 : zkall cX3_getWord zk_3_17 = true := zd_3_17_0
theorem zd_3_18_0 : zkall cX3_goOnWorking zk_3_18_0 = true := by decide +kernel
theorem zd_3_18 : zkall cX3_goOnWorking zk_3_18 = true := zd_3_18_0
theorem zd_3_19_0 : zkall cX3_putOut zk_3_19_0 = true := by decide +kernel
theorem zd_3_19 : zkall cX3_putOut zk_3_19 = true := zd_3_19_0
theorem zd_3_20_0 : zkall cX3_reach zk_3_20_0 = true := by decide +kernel
theorem zd_3_20_1 : zkall cX3_reach zk_3_20_1 = true := by decide +kernel
theorem zd_3_20 : zkall cX3_reach zk_3_20 = true := zkall_app zd_3_20_0 (zd_3_20_1)
theorem zd_3_21_0 : zkall cX3_isFull zk_3_21_0 = true := by decide +kernel
theorem zd_3_21 : zkall cX3_isFull zk_3_21 = true := zd_3_21_0
theorem zd_3_22_0 : zkall cX3_holdersOf zk_3_22_0 = true := by decide +kernel
theorem zd_3_22 : zkall cX3_holdersOf zk_3_22 = true := zd_3_22_0
theorem zd_3_23_0 : zkall cX3_anyBefore zk_3_23_0 = true := by decide +kernel
theorem zd_3_23 : zkall cX3_anyBefore zk_3_23 = true := zd_3_23_0
theorem zd_3_24_0 : zkall cX3_fall zk_3_24_0 = true := by decide +kernel
theorem zd_3_24 : zkall cX3_fall zk_3_24 = true := zd_3_24_0
theorem zd_3_25_0 : zkall cX3_blocksOf zk_3_25_0 = true := by decide +kernel
theorem zd_3_25 : zkall cX3_blocksOf zk_3_25 = true := zd_3_25_0
theorem zd_3_26_0 : zkall cX3_leavingOut zk_3_26_0 = true := by decide +kernel
theorem zd_3_26 : zkall cX3_leavingOut zk_3_26 = true := zd_3_26_0
theorem zd_3_27_0 : zkall cX3_doneBits zk_3_27_0 = true := by decide +kernel
theorem zd_3_27 : zkall cX3_doneBits zk_3_27 = true := zd_3_27_0
theorem zd_3_28_0 : zkall cX3_guessingBits zk_3_28_0 = true := by decide +kernel
theorem zd_3_28 : zkall cX3_guessingBits zk_3_28 = true := zd_3_28_0
theorem zd_3_29_0 : zkall cX3_lockBits zk_3_29_0 = true := by decide +kernel
theorem zd_3_29 : zkall cX3_lockBits zk_3_29 = true := zd_3_29_0
theorem zd_3_30_0 : zkall cX3_allKept zk_3_30_0 = true := by decide +kernel
theorem zd_3_30 : zkall cX3_allKept zk_3_30 = true := zd_3_30_0
theorem zd_3_31_0 : zkall cX3_isWordOfOther zk_3_31_0 = true := by decide +kernel
theorem zd_3_31 : zkall cX3_isWordOfOther zk_3_31 = true := zd_3_31_0
theorem zd_4_0_0 : zkall cX4_init zk_4_0_0 = true := by decide +kernel
theorem zd_4_0 : zkall cX4_init zk_4_0 = true := zd_4_0_0
theorem zd_4_1_0 : zkall cX4_forget zk_4_1_0 = true := by decide +kernel
theorem zd_4_1 : zkall cX4_forget zk_4_1 = true := zd_4_1_0
theorem zd_4_2_0 : zkall cX4_threadOf zk_4_2_0 = true := by decide +kernel
theorem zd_4_2 : zkall cX4_threadOf zk_4_2 = true := zd_4_2_0
theorem zd_4_3_0 : zkall cX4_search zk_4_3_0 = true := by decide +kernel
theorem zd_4_3 : zkall cX4_search zk_4_3 = true := zd_4_3_0
theorem zd_4_4_0 : zkall cX4_placeFrom zk_4_4_0 = true := by decide +kernel
theorem zd_4_4 : zkall cX4_placeFrom zk_4_4 = true := zd_4_4_0
theorem zd_4_5_0 : zkall cX4_playPart zk_4_5_0 = true := by decide +kernel
theorem zd_4_5 : zkall cX4_playPart zk_4_5 = true := zd_4_5_0
theorem zd_4_6_0 : zkall cX4_playDeed zk_4_6_0 = true := by decide +kernel
theorem zd_4_6 : zkall cX4_playDeed zk_4_6 = true := zd_4_6_0
theorem zd_4_7_0 : zkall cX4_playOutput zk_4_7_0 = true := by decide +kernel
theorem zd_4_7 : zkall cX4_playOutput zk_4_7 = true := zd_4_7_0
theorem zd_4_8_0 : zkall cX4_cameOut zk_4_8_0 = true := by decide +kernel
theorem zd_4_8 : zkall cX4_cameOut zk_4_8 = true := zd_4_8_0
