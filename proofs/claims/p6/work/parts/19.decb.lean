theorem zd_5_0_0 : zkall cX5_init zk_5_0_0 = true := by decide +kernel
theorem zd_5_0 : zkall cX5_init zk_5_0 = true := zd_5_0_0
theorem zd_5_1_0 : zkall cX5_readAll zk_5_1_0 = true := by decide +kernel
theorem zd_5_1 : zkall cX5_readAll zk_5_1 = true := zd_5_1_0
theorem zd_5_2_0 : zkall cX5_readLine zk_5_2_0 = true := by decide +kernel
theorem zd_5_2 : zkall cX5_readLine zk_5_2 = true := zd_5_2_0
theorem zd_5_3_0 : zkall cX5_readTerm zk_5_3_0 = true := by decide +kernel
theorem zd_5_3 : zkall cX5_readTerm zk_5_3 = true := zd_5_3_0
theorem zd_5_4_0 : zkall cX5_readTrust zk_5_4_0 = true := by decide +kernel
theorem zd_5_4 : zkall cX5_readTrust zk_5_4 = true := zd_5_4_0
theorem zd_5_5_0 : zkall cX5_readWord zk_5_5_0 = true := by decide +kernel
theorem zd_5_5 : zkall cX5_readWord zk_5_5 = true := zd_5_5_0
theorem zd_5_6_0 : zkall cX5_readLock zk_5_6_0 = true := by decide +kernel
theorem zd_5_6 : zkall cX5_readLock zk_5_6 = true := zd_5_6_0
theorem zd_5_7_0 : zkall cX5_readProgram zk_5_7_0 = true := by decide +kernel
theorem zd_5_7 : zkall cX5_readProgram zk_5_7 = true := zd_5_7_0
theorem zd_5_8_0 : zkall cX5_readDeed zk_5_8_0 = true := by decide +kernel
theorem zd_5_8 : zkall cX5_readDeed zk_5_8 = true := zd_5_8_0
theorem zd_5_9_0 : zkall cX5_lookAhead zk_5_9_0 = true := by decide +kernel
theorem zd_5_9 : zkall cX5_lookAhead zk_5_9 = true := zd_5_9_0
theorem zd_5_10_0 : zkall cX5_skipSign zk_5_10_0 = true := by decide +kernel
theorem zd_5_10 : zkall cX5_skipSign zk_5_10 = true := zd_5_10_0
theorem zd_5_11_0 : zkall cX5_readName zk_5_11_0 = true := by decide +kernel
theorem zd_5_11 : zkall cX5_readName zk_5_11 = true := zd_5_11_0
theorem zd_5_12_0 : zkall cX5_readNumber zk_5_12_0 = true := by decide +kernel
theorem zd_5_12 : zkall cX5_readNumber zk_5_12 = true := zd_5_12_0
theorem zd_6_0_0 : zkall cX6_init zk_6_0_0 = true := by decide +kernel
theorem zd_6_0 : zkall cX6_init zk_6_0 = true := zd_6_0_0
theorem zd_6_1_0 : zkall cX6_copyFrom zk_6_1_0 = true := by decide +kernel
theorem zd_6_1 : zkall cX6_copyFrom zk_6_1 = true := zd_6_1_0
theorem zd_6_2_0 : zkall cX6_clear zk_6_2_0 = true := by decide +kernel
theorem zd_6_2 : zkall cX6_clear zk_6_2 = true := zd_6_2_0
theorem zd_6_3_0 : zkall cX6_addDeed zk_6_3_0 = true := by decide +kernel
theorem zd_6_3 : zkall cX6_addDeed zk_6_3 = true := zd_6_3_0
theorem zd_6_4_0 : zkall cX6_kindAt zk_6_4_0 = true := by decide +kernel
theorem zd_6_4 : zkall cX6_kindAt zk_6_4 = true := zd_6_4_0
theorem zd_6_5_0 : zkall cX6_numberAt zk_6_5_0 = true := by decide +kernel
theorem zd_6_5 : zkall cX6_numberAt zk_6_5 = true := zd_6_5_0
theorem zd_6_6_0 : zkall cX6_isDone zk_6_6_0 = true := by decide +kernel
theorem zd_6_6 : zkall cX6_isDone zk_6_6 = true := zd_6_6_0
theorem zd_6_7_0 : zkall cX6_allFalls zk_6_7_0 = true := by decide +kernel
theorem zd_6_7 : zkall cX6_allFalls zk_6_7 = true := zd_6_7_0
theorem zd_6_8_0 : zkall cX6_heldBehind zk_6_8_0 = true := by decide +kernel
theorem zd_6_8 : zkall cX6_heldBehind zk_6_8 = true := zd_6_8_0
theorem zd_6_9_0 : zkall cX6_mostHeld zk_6_9_0 = true := by decide +kernel
theorem zd_6_9 : zkall cX6_mostHeld zk_6_9 = true := zd_6_9_0
theorem zd_6_10_0 : zkall cX6_partEnd zk_6_10_0 = true := by decide +kernel
theorem zd_6_10 : zkall cX6_partEnd zk_6_10 = true := zd_6_10_0
theorem zd_6_11_0 : zkall cX6_partCount zk_6_11_0 = true := by decide +kernel
theorem zd_6_11 : zkall cX6_partCount zk_6_11 = true := zd_6_11_0
theorem zd_7_0_0 : zkall cX7_init zk_7_0_0 = true := by decide +kernel
theorem zd_7_0 : zkall cX7_init zk_7_0 = true := zd_7_0_0
theorem zd_7_1_0 : zkall cX7_write zk_7_1_0 = true := by decide +kernel
theorem zd_7_1 : zkall cX7_write zk_7_1 = true := zd_7_1_0
theorem zd_7_2_0 : zkall cX7_byteAt zk_7_2_0 = true := by decide +kernel
theorem zd_7_2 : zkall cX7_byteAt zk_7_2 = true := zd_7_2_0
theorem zd_7_3_0 : zkall cX7_putByte zk_7_3_0 = true := by decide +kernel
theorem zd_7_3 : zkall cX7_putByte zk_7_3 = true := zd_7_3_0
theorem zd_7_4_0 : zkall cX7_putName zk_7_4_0 = true := by decide +kernel
theorem zd_7_4 : zkall cX7_putName zk_7_4 = true := zd_7_4_0
theorem zd_7_5_0 : zkall cX7_putNumber zk_7_5_0 = true := by decide +kernel
theorem zd_7_5 : zkall cX7_putNumber zk_7_5 = true := zd_7_5_0
theorem zd_8_0_0 : zkall cX8_init zk_8_0_0 = true := by decide +kernel
theorem zd_8_0 : zkall cX8_init zk_8_0 = true := zd_8_0_0
theorem zd_8_1_0 : zkall cX8_feed zk_8_1_0 = true := by decide +kernel
theorem zd_8_1 : zkall cX8_feed zk_8_1 = true := zd_8_1_0
theorem zd_8_2_0 : zkall cX8_feedOne zk_8_2_0 = true := by decide +kernel
theorem zd_8_2 : zkall cX8_feedOne zk_8_2 = true := zd_8_2_0
theorem zd_8_3_0 : zkall cX8_end zk_8_3_0 = true := by decide +kernel
theorem zd_8_3 : zkall cX8_end zk_8_3 = true := zd_8_3_0
theorem zd_8_4_0 : zkall cX8_machine zk_8_4_0 = true := by decide +kernel
theorem zd_8_4 : zkall cX8_machine zk_8_4 = true := zd_8_4_0
theorem zd_8_5_0 : zkall cX8_fault zk_8_5_0 = true := by decide +kernel
theorem zd_8_5 : zkall cX8_fault zk_8_5 = true := zd_8_5_0
theorem zd_8_6_0 : zkall cX8_thread zk_8_6_0 = true := by decide +kernel
theorem zd_8_6 : zkall cX8_thread zk_8_6 = true := zd_8_6_0
theorem zd_8_7_0 : zkall cX8_leftOut zk_8_7_0 = true := by decide +kernel
theorem zd_8_7 : zkall cX8_leftOut zk_8_7 = true := zd_8_7_0
theorem zd_8_8_0 : zkall cX8_blocks zk_8_8_0 = true := by decide +kernel
theorem zd_8_8 : zkall cX8_blocks zk_8_8 = true := zd_8_8_0
theorem zd_8_9_0 : zkall cX8_fell zk_8_9_0 = true := by decide +kernel
theorem zd_8_9 : zkall cX8_fell zk_8_9 = true := zd_8_9_0
theorem zd_8_10_0 : zkall cX8_word zk_8_10_0 = true := by decide +kernel
theorem zd_8_10 : zkall cX8_word zk_8_10 = true := zd_8_10_0
theorem zd_8_11_0 : zkall cX8_sees zk_8_11_0 = true := by decide +kernel
theorem zd_8_11 : zkall cX8_sees zk_8_11 = true := zd_8_11_0
theorem zd_8_12_0 : zkall cX8_lock zk_8_12_0 = true := by decide +kernel
theorem zd_8_12 : zkall cX8_lock zk_8_12 = true := zd_8_12_0
theorem zd_8_13_0 : zkall cX8_term zk_8_13_0 = true := by decide +kernel
theorem zd_8_13 : zkall cX8_term zk_8_13 = true := zd_8_13_0
theorem zd_8_14_0 : zkall cX8_deed zk_8_14_0 = true := by decide +kernel
theorem zd_8_14 : zkall cX8_deed zk_8_14 = true := zd_8_14_0
theorem zd_8_15_0 : zkall cX8_step zk_8_15_0 = true := by decide +kernel
theorem zd_8_15 : zkall cX8_step zk_8_15 = true := zd_8_15_0
theorem zd_8_16_0 : zkall cX8_run zk_8_16_0 = true := by decide +kernel
theorem zd_8_16 : zkall cX8_run zk_8_16 = true := zd_8_16_0
theorem zd_8_17_0 : zkall cX8_chance zk_8_17_0 = true := by decide +kernel
theorem zd_8_17 : zkall cX8_chance zk_8_17 = true := zd_8_17_0
theorem zd_8_18_0 : zkall cX8_goOn zk_8_18_0 = true := by decide +kernel
theorem zd_8_18 : zkall cX8_goOn zk_8_18 = true := zd_8_18_0
theorem zd_8_19_0 : zkall cX8_poke zk_8_19_0 = true := by decide +kernel
theorem zd_8_19 : zkall cX8_poke zk_8_19 = true := zd_8_19_0
theorem zd_8_20_0 : zkall cX8_tune zk_8_20_0 = true := by decide +kernel
theorem zd_8_20 : zkall cX8_tune zk_8_20 = true := zd_8_20_0
theorem zd_8_21_0 : zkall cX8_seed zk_8_21_0 = true := by decide +kernel
theorem zd_8_21 : zkall cX8_seed zk_8_21 = true := zd_8_21_0
theorem zd_8_22_0 : zkall cX8_due zk_8_22_0 = true := by decide +kernel
theorem zd_8_22 : zkall cX8_due zk_8_22 = true := zd_8_22_0
theorem zd_8_23_0 : zkall cX8_quickest zk_8_23_0 = true := by decide +kernel
theorem zd_8_23 : zkall cX8_quickest zk_8_23 = true := zd_8_23_0
theorem zd_8_24_0 : zkall cX8_plain zk_8_24_0 = true := by decide +kernel
theorem zd_8_24 : zkall cX8_plain zk_8_24 = true := zd_8_24_0
theorem zd_8_25_0 : zkall cX8_ticksAhead zk_8_25_0 = true := by decide +kernel
theorem zd_8_25 : zkall cX8_ticksAhead zk_8_25 = true := zd_8_25_0
theorem zd_8_26_0 : zkall cX8_touches zk_8_26_0 = true := by decide +kernel
theorem zd_8_26 : zkall cX8_touches zk_8_26 = true := zd_8_26_0
theorem zd_8_27_0 : zkall cX8_rivals zk_8_27_0 = true := by decide +kernel
theorem zd_8_27 : zkall cX8_rivals zk_8_27 = true := zd_8_27_0
theorem zd_8_28_0 : zkall cX8_nest zk_8_28_0 = true := by decide +kernel
theorem zd_8_28 : zkall cX8_nest zk_8_28 = true := zd_8_28_0
theorem zd_8_29_0 : zkall cX8_parts zk_8_29_0 = true := by decide +kernel
theorem zd_8_29 : zkall cX8_parts zk_8_29 = true := zd_8_29_0
theorem zd_8_30_0 : zkall cX8_serial zk_8_30_0 = true := by decide +kernel
theorem zd_8_30 : zkall cX8_serial zk_8_30 = true := zd_8_30_0
theorem zd_8_31_0 : zkall cX8_output zk_8_31_0 = true := by decide +kernel
theorem zd_8_31 : zkall cX8_output zk_8_31 = true := zd_8_31_0
theorem zd_8_32_0 : zkall cX8_log zk_8_32_0 = true := by decide +kernel
theorem zd_8_32 : zkall cX8_log zk_8_32 = true := zd_8_32_0
theorem zd_8_33_0 : zkall cX8_text zk_8_33_0 = true := by decide +kernel
theorem zd_8_33 : zkall cX8_text zk_8_33 = true := zd_8_33_0
theorem zd_8_34_0 : zkall cX8_octet zk_8_34_0 = true := by decide +kernel
theorem zd_8_34 : zkall cX8_octet zk_8_34 = true := zd_8_34_0
theorem zd_8_35_0 : zkall cX8_image zk_8_35_0 = true := by decide +kernel
theorem zd_8_35 : zkall cX8_image zk_8_35 = true := zd_8_35_0
theorem zd_8_36_0 : zkall cX8_back zk_8_36_0 = true := by decide +kernel
theorem zd_8_36 : zkall cX8_back zk_8_36 = true := zd_8_36_0
theorem zd_8_37_0 : zkall cX8_count zk_8_37_0 = true := by decide +kernel
theorem zd_8_37 : zkall cX8_count zk_8_37 = true := zd_8_37_0
theorem zd_8_38_0 : zkall cX8_strandOf zk_8_38_0 = true := by decide +kernel
theorem zd_8_38 : zkall cX8_strandOf zk_8_38 = true := zd_8_38_0
theorem zd_8_39_0 : zkall cX8_wordOf zk_8_39_0 = true := by decide +kernel
theorem zd_8_39 : zkall cX8_wordOf zk_8_39 = true := zd_8_39_0
theorem zd_8_40_0 : zkall cX8_whatOfTwo zk_8_40_0 = true := by decide +kernel
theorem zd_8_40 : zkall cX8_whatOfTwo zk_8_40 = true := zd_8_40_0
theorem zd_8_41_0 : zkall cX8_ticksOf zk_8_41_0 = true := by decide +kernel
theorem zd_8_41 : zkall cX8_ticksOf zk_8_41 = true := zd_8_41_0
