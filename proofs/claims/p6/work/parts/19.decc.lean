theorem zd_9_0_0 : zkall cX9_thrown zk_9_0_0 = true := by decide +kernel
theorem zd_9_0 : zkall cX9_thrown zk_9_0 = true := zd_9_0_0
theorem zd_9_1_0 : zkall cX9_throwsIf zk_9_1_0 = true := by decide +kernel
theorem zd_9_1 : zkall cX9_throwsIf zk_9_1 = true := zd_9_1_0
theorem zd_9_2_0 : zkall cX9_in zk_9_2_0 = true := by decide +kernel
theorem zd_9_2 : zkall cX9_in zk_9_2 = true := zd_9_2_0
theorem zd_9_3_0 : zkall cX9_holds zk_9_3_0 = true := by decide +kernel
theorem zd_9_3 : zkall cX9_holds zk_9_3 = true := zd_9_3_0
theorem zd_9_4_0 : zkall cX9_bits zk_9_4_0 = true := by decide +kernel
theorem zd_9_4 : zkall cX9_bits zk_9_4 = true := zd_9_4_0
theorem zd_9_5_0 : zkall cX9_init zk_9_5_0 = true := by decide +kernel
theorem zd_9_5_1 : zkall cX9_init zk_9_5_1 = true := by decide +kernel
theorem zd_9_5 : zkall cX9_init zk_9_5 = true := zkall_app zd_9_5_0 (zd_9_5_1)
theorem zd_9_6_0 : zkall cX9_copies zk_9_6_0 = true := by decide +kernel
theorem zd_9_6 : zkall cX9_copies zk_9_6 = true := zd_9_6_0
theorem zd_9_7_0 : zkall cX9_image zk_9_7_0 = true := by decide +kernel
theorem zd_9_7 : zkall cX9_image zk_9_7 = true := zd_9_7_0
theorem zd_9_8_0 : zkall cX9_back zk_9_8_0 = true := by decide +kernel
theorem zd_9_8 : zkall cX9_back zk_9_8 = true := zd_9_8_0
theorem zd_9_9_0 : zkall cX9_threads zk_9_9_0 = true := by decide +kernel
theorem zd_9_9 : zkall cX9_threads zk_9_9 = true := zd_9_9_0
theorem zd_9_10_0 : zkall cX9_at zk_9_10_0 = true := by decide +kernel
theorem zd_9_10 : zkall cX9_at zk_9_10 = true := zd_9_10_0
theorem zd_9_11_0 : zkall cX9_of zk_9_11_0 = true := by decide +kernel
theorem zd_9_11 : zkall cX9_of zk_9_11 = true := zd_9_11_0
theorem zd_9_12_0 : zkall cX9_isDone zk_9_12_0 = true := by decide +kernel
theorem zd_9_12 : zkall cX9_isDone zk_9_12 = true := zd_9_12_0
theorem zd_9_13_0 : zkall cX9_deedOf zk_9_13_0 = true := by decide +kernel
theorem zd_9_13 : zkall cX9_deedOf zk_9_13 = true := zd_9_13_0
theorem zd_9_14_0 : zkall cX9_blockOf zk_9_14_0 = true := by decide +kernel
theorem zd_9_14 : zkall cX9_blockOf zk_9_14 = true := zd_9_14_0
theorem zd_9_15_0 : zkall cX9_logs zk_9_15_0 = true := by decide +kernel
theorem zd_9_15 : zkall cX9_logs zk_9_15 = true := zd_9_15_0
theorem zd_9_16_0 : zkall cX9_ends zk_9_16_0 = true := by decide +kernel
theorem zd_9_16 : zkall cX9_ends zk_9_16 = true := zd_9_16_0
theorem zd_9_17_0 : zkall cX9_falls zk_9_17_0 = true := by decide +kernel
theorem zd_9_17 : zkall cX9_falls zk_9_17 = true := zd_9_17_0
theorem zd_9_18_0 : zkall cX9_itFalls zk_9_18_0 = true := by decide +kernel
theorem zd_9_18 : zkall cX9_itFalls zk_9_18 = true := zd_9_18_0
theorem zd_9_19_0 : zkall cX9_clashing zk_9_19_0 = true := by decide +kernel
theorem zd_9_19 : zkall cX9_clashing zk_9_19 = true := zd_9_19_0
theorem zd_9_20_0 : zkall cX9_yields zk_9_20_0 = true := by decide +kernel
theorem zd_9_20 : zkall cX9_yields zk_9_20 = true := zd_9_20_0
theorem zd_9_21_0 : zkall cX9_clears zk_9_21_0 = true := by decide +kernel
theorem zd_9_21 : zkall cX9_clears zk_9_21 = true := zd_9_21_0
theorem zd_9_22_0 : zkall cX9_seen zk_9_22_0 = true := by decide +kernel
theorem zd_9_22 : zkall cX9_seen zk_9_22 = true := zd_9_22_0
theorem zd_9_23_0 : zkall cX9_reads zk_9_23_0 = true := by decide +kernel
theorem zd_9_23 : zkall cX9_reads zk_9_23 = true := zd_9_23_0
theorem zd_9_24_0 : zkall cX9_writes zk_9_24_0 = true := by decide +kernel
theorem zd_9_24 : zkall cX9_writes zk_9_24 = true := zd_9_24_0
theorem zd_9_25_0 : zkall cX9_placeLeft zk_9_25_0 = true := by decide +kernel
theorem zd_9_25 : zkall cX9_placeLeft zk_9_25 = true := zd_9_25_0
theorem zd_9_26_0 : zkall cX9_leavesOut zk_9_26_0 = true := by decide +kernel
theorem zd_9_26 : zkall cX9_leavesOut zk_9_26 = true := zd_9_26_0
theorem zd_9_27_0 : zkall cX9_beginsGuess zk_9_27_0 = true := by decide +kernel
theorem zd_9_27 : zkall cX9_beginsGuess zk_9_27 = true := zd_9_27_0
theorem zd_9_28_0 : zkall cX9_isTaken zk_9_28_0 = true := by decide +kernel
theorem zd_9_28 : zkall cX9_isTaken zk_9_28 = true := zd_9_28_0
theorem zd_9_29_0 : zkall cX9_takes zk_9_29_0 = true := by decide +kernel
theorem zd_9_29_1 : zkall cX9_takes zk_9_29_1 = true := by decide +kernel
theorem zd_9_29 : zkall cX9_takes zk_9_29 = true := zkall_app zd_9_29_0 (zd_9_29_1)
theorem zd_9_30_0 : zkall cX9_isKept zk_9_30_0 = true := by decide +kernel
theorem zd_9_30 : zkall cX9_isKept zk_9_30 = true := zd_9_30_0
theorem zd_9_31_0 : zkall cX9_drops zk_9_31_0 = true := by decide +kernel
theorem zd_9_31 : zkall cX9_drops zk_9_31 = true := zd_9_31_0
theorem zd_9_32_0 : zkall cX9_works zk_9_32_0 = true := by decide +kernel
theorem zd_9_32 : zkall cX9_works zk_9_32 = true := zd_9_32_0
theorem zd_9_33_0 : zkall cX9_putsOut zk_9_33_0 = true := by decide +kernel
theorem zd_9_33 : zkall cX9_putsOut zk_9_33 = true := zd_9_33_0
theorem zd_9_34_0 : zkall cX9_does zk_9_34_0 = true := by decide +kernel
theorem zd_9_34 : zkall cX9_does zk_9_34 = true := zd_9_34_0
theorem zd_9_35_0 : zkall cX9_steps zk_9_35_0 = true := by decide +kernel
theorem zd_9_35 : zkall cX9_steps zk_9_35 = true := zd_9_35_0
theorem zd_9_36_0 : zkall cX9_doneOnes zk_9_36_0 = true := by decide +kernel
theorem zd_9_36 : zkall cX9_doneOnes zk_9_36 = true := zd_9_36_0
theorem zd_9_37_0 : zkall cX9_areAllDone zk_9_37_0 = true := by decide +kernel
theorem zd_9_37 : zkall cX9_areAllDone zk_9_37 = true := zd_9_37_0
theorem zd_9_38_0 : zkall cX9_nextOne zk_9_38_0 = true := by decide +kernel
theorem zd_9_38 : zkall cX9_nextOne zk_9_38 = true := zd_9_38_0
theorem zd_9_39_0 : zkall cX9_drawOf zk_9_39_0 = true := by decide +kernel
theorem zd_9_39 : zkall cX9_drawOf zk_9_39 = true := zd_9_39_0
