theorem zd_10_0_0 : zkall cL_machine zk_10_0_0 = true := by decide +kernel
theorem zd_10_0 : zkall cL_machine zk_10_0 = true := zd_10_0_0
theorem zd_10_1_0 : zkall cL_thread zk_10_1_0 = true := by decide +kernel
theorem zd_10_1 : zkall cL_thread zk_10_1 = true := zd_10_1_0
theorem zd_10_2_0 : zkall cL_leftOut zk_10_2_0 = true := by decide +kernel
theorem zd_10_2 : zkall cL_leftOut zk_10_2 = true := zd_10_2_0
theorem zd_10_3_0 : zkall cL_blocks zk_10_3_0 = true := by decide +kernel
theorem zd_10_3 : zkall cL_blocks zk_10_3 = true := zd_10_3_0
theorem zd_10_4_0 : zkall cL_fell zk_10_4_0 = true := by decide +kernel
theorem zd_10_4 : zkall cL_fell zk_10_4 = true := zd_10_4_0
theorem zd_10_5_0 : zkall cL_word zk_10_5_0 = true := by decide +kernel
theorem zd_10_5 : zkall cL_word zk_10_5 = true := zd_10_5_0
theorem zd_10_6_0 : zkall cL_sees zk_10_6_0 = true := by decide +kernel
theorem zd_10_6 : zkall cL_sees zk_10_6 = true := zd_10_6_0
theorem zd_10_7_0 : zkall cL_lock zk_10_7_0 = true := by decide +kernel
theorem zd_10_7 : zkall cL_lock zk_10_7 = true := zd_10_7_0
theorem zd_10_8_0 : zkall cL_term zk_10_8_0 = true := by decide +kernel
theorem zd_10_8 : zkall cL_term zk_10_8 = true := zd_10_8_0
theorem zd_10_9_0 : zkall cL_deed zk_10_9_0 = true := by decide +kernel
theorem zd_10_9 : zkall cL_deed zk_10_9 = true := zd_10_9_0
theorem zd_10_10_0 : zkall cL_step zk_10_10_0 = true := by decide +kernel
theorem zd_10_10 : zkall cL_step zk_10_10 = true := zd_10_10_0
theorem zd_10_11_0 : zkall cL_run zk_10_11_0 = true := by decide +kernel
theorem zd_10_11 : zkall cL_run zk_10_11 = true := zd_10_11_0
theorem zd_10_12_0 : zkall cL_chance zk_10_12_0 = true := by decide +kernel
theorem zd_10_12 : zkall cL_chance zk_10_12 = true := zd_10_12_0
theorem zd_10_13_0 : zkall cL_poke zk_10_13_0 = true := by decide +kernel
theorem zd_10_13 : zkall cL_poke zk_10_13 = true := zd_10_13_0
theorem zd_10_14_0 : zkall cL_tune zk_10_14_0 = true := by decide +kernel
theorem zd_10_14 : zkall cL_tune zk_10_14 = true := zd_10_14_0
theorem zd_10_15_0 : zkall cL_due zk_10_15_0 = true := by decide +kernel
theorem zd_10_15 : zkall cL_due zk_10_15 = true := zd_10_15_0
theorem zd_10_16_0 : zkall cL_quickest zk_10_16_0 = true := by decide +kernel
theorem zd_10_16 : zkall cL_quickest zk_10_16 = true := zd_10_16_0
theorem zd_10_17_0 : zkall cL_touches zk_10_17_0 = true := by decide +kernel
theorem zd_10_17 : zkall cL_touches zk_10_17 = true := zd_10_17_0
theorem zd_10_18_0 : zkall cL_rivals zk_10_18_0 = true := by decide +kernel
theorem zd_10_18 : zkall cL_rivals zk_10_18 = true := zd_10_18_0
theorem zd_10_19_0 : zkall cL_nest zk_10_19_0 = true := by decide +kernel
theorem zd_10_19 : zkall cL_nest zk_10_19 = true := zd_10_19_0
theorem zd_10_20_0 : zkall cL_parts zk_10_20_0 = true := by decide +kernel
theorem zd_10_20 : zkall cL_parts zk_10_20 = true := zd_10_20_0
theorem zd_10_21_0 : zkall cL_output zk_10_21_0 = true := by decide +kernel
theorem zd_10_21 : zkall cL_output zk_10_21 = true := zd_10_21_0
theorem zd_10_22_0 : zkall cL_log zk_10_22_0 = true := by decide +kernel
theorem zd_10_22 : zkall cL_log zk_10_22 = true := zd_10_22_0
theorem zd_10_23_0 : zkall cL_text zk_10_23_0 = true := by decide +kernel
theorem zd_10_23 : zkall cL_text zk_10_23 = true := zd_10_23_0
theorem zd_11_0_0 : zkall cJ6_bitCount_0f7a4 zk_11_0_0 = true := by decide +kernel
theorem zd_11_0 : zkall cJ6_bitCount_0f7a4 zk_11_0 = true := zd_11_0_0
theorem zd_12_0_0 : zkall cJ9_floorMod_7cf53 zk_12_0_0 = true := by decide +kernel
theorem zd_12_0 : zkall cJ9_floorMod_7cf53 zk_12_0 = true := zd_12_0_0
theorem zd_12_1_0 : zkall cJ9_max_7cf53 zk_12_1_0 = true := by decide +kernel
theorem zd_12_1 : zkall cJ9_max_7cf53 zk_12_1 = true := zd_12_1_0
theorem zd_12_2_0 : zkall cJ9_min_7cf53 zk_12_2_0 = true := by decide +kernel
theorem zd_12_2 : zkall cJ9_min_7cf53 zk_12_2 = true := zd_12_2_0
