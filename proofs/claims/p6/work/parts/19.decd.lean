theorem zd_9_40_0 : zkall cX9_drawnOne zk_9_40_0 = true := by decide +kernel
theorem zd_9_40 : zkall cX9_drawnOne zk_9_40 = true := zd_9_40_0
theorem zd_9_41_0 : zkall cX9_feed zk_9_41_0 = true := by decide +kernel
theorem zd_9_41 : zkall cX9_feed zk_9_41 = true := zd_9_41_0
theorem zd_9_42_0 : zkall cX9_end zk_9_42_0 = true := by decide +kernel
theorem zd_9_42 : zkall cX9_end zk_9_42 = true := zd_9_42_0
theorem zd_9_43_0 : zkall cX9_fault zk_9_43_0 = true := by decide +kernel
theorem zd_9_43 : zkall cX9_fault zk_9_43 = true := zd_9_43_0
theorem zd_9_44_0 : zkall cX9_isAt zk_9_44_0 = true := by decide +kernel
theorem zd_9_44 : zkall cX9_isAt zk_9_44 = true := zd_9_44_0
theorem zd_9_45_0 : zkall cX9_blanks zk_9_45_0 = true := by decide +kernel
theorem zd_9_45 : zkall cX9_blanks zk_9_45 = true := zd_9_45_0
theorem zd_9_46_0 : zkall cX9_letters zk_9_46_0 = true := by decide +kernel
theorem zd_9_46 : zkall cX9_letters zk_9_46 = true := zd_9_46_0
theorem zd_9_47_0 : zkall cX9_isWord zk_9_47_0 = true := by decide +kernel
theorem zd_9_47 : zkall cX9_isWord zk_9_47 = true := zd_9_47_0
theorem zd_9_48_0 : zkall cX9_passesSign zk_9_48_0 = true := by decide +kernel
theorem zd_9_48 : zkall cX9_passesSign zk_9_48 = true := zd_9_48_0
theorem zd_9_49_0 : zkall cX9_number zk_9_49_0 = true := by decide +kernel
theorem zd_9_49 : zkall cX9_number zk_9_49 = true := zd_9_49_0
theorem zd_9_50_0 : zkall cX9_readTo zk_9_50_0 = true := by decide +kernel
theorem zd_9_50 : zkall cX9_readTo zk_9_50 = true := zd_9_50_0
theorem zd_9_51_0 : zkall cX9_kindHere zk_9_51_0 = true := by decide +kernel
theorem zd_9_51 : zkall cX9_kindHere zk_9_51 = true := zd_9_51_0
theorem zd_9_52_0 : zkall cX9_readDeed zk_9_52_0 = true := by decide +kernel
theorem zd_9_52 : zkall cX9_readDeed zk_9_52 = true := zd_9_52_0
theorem zd_9_53_0 : zkall cX9_readThread zk_9_53_0 = true := by decide +kernel
theorem zd_9_53 : zkall cX9_readThread zk_9_53 = true := zd_9_53_0
theorem zd_9_54_0 : zkall cX9_readWordLine zk_9_54_0 = true := by decide +kernel
theorem zd_9_54 : zkall cX9_readWordLine zk_9_54 = true := zd_9_54_0
theorem zd_9_55_0 : zkall cX9_readLock zk_9_55_0 = true := by decide +kernel
theorem zd_9_55 : zkall cX9_readLock zk_9_55 = true := zd_9_55_0
theorem zd_9_56_0 : zkall cX9_readTrust zk_9_56_0 = true := by decide +kernel
theorem zd_9_56 : zkall cX9_readTrust zk_9_56 = true := zd_9_56_0
theorem zd_9_57_0 : zkall cX9_leastOf zk_9_57_0 = true := by decide +kernel
theorem zd_9_57 : zkall cX9_leastOf zk_9_57 = true := zd_9_57_0
theorem zd_9_58_0 : zkall cX9_mostOf zk_9_58_0 = true := by decide +kernel
theorem zd_9_58 : zkall cX9_mostOf zk_9_58 = true := zd_9_58_0
theorem zd_9_59_0 : zkall cX9_termHere zk_9_59_0 = true := by decide +kernel
theorem zd_9_59 : zkall cX9_termHere zk_9_59 = true := zd_9_59_0
theorem zd_9_60_0 : zkall cX9_readLine zk_9_60_0 = true := by decide +kernel
theorem zd_9_60 : zkall cX9_readLine zk_9_60 = true := zd_9_60_0
theorem zd_9_61_0 : zkall cX9_readText zk_9_61_0 = true := by decide +kernel
theorem zd_9_61 : zkall cX9_readText zk_9_61 = true := zd_9_61_0
theorem zd_9_62_0 : zkall cX9_machine zk_9_62_0 = true := by decide +kernel
theorem zd_9_62 : zkall cX9_machine zk_9_62 = true := zd_9_62_0
theorem zd_9_63_0 : zkall cX9_noThread zk_9_63_0 = true := by decide +kernel
theorem zd_9_63 : zkall cX9_noThread zk_9_63 = true := zd_9_63_0
theorem zd_9_64_0 : zkall cX9_step zk_9_64_0 = true := by decide +kernel
theorem zd_9_64 : zkall cX9_step zk_9_64 = true := zd_9_64_0
theorem zd_9_65_0 : zkall cX9_goes zk_9_65_0 = true := by decide +kernel
theorem zd_9_65 : zkall cX9_goes zk_9_65 = true := zd_9_65_0
theorem zd_9_66_0 : zkall cX9_run zk_9_66_0 = true := by decide +kernel
theorem zd_9_66 : zkall cX9_run zk_9_66 = true := zd_9_66_0
theorem zd_9_67_0 : zkall cX9_chance zk_9_67_0 = true := by decide +kernel
theorem zd_9_67 : zkall cX9_chance zk_9_67 = true := zd_9_67_0
theorem zd_9_68_0 : zkall cX9_poke zk_9_68_0 = true := by decide +kernel
theorem zd_9_68 : zkall cX9_poke zk_9_68 = true := zd_9_68_0
theorem zd_9_69_0 : zkall cX9_tune zk_9_69_0 = true := by decide +kernel
theorem zd_9_69 : zkall cX9_tune zk_9_69 = true := zd_9_69_0
theorem zd_9_70_0 : zkall cX9_seed zk_9_70_0 = true := by decide +kernel
theorem zd_9_70 : zkall cX9_seed zk_9_70 = true := zd_9_70_0
theorem zd_9_71_0 : zkall cX9_fellOf zk_9_71_0 = true := by decide +kernel
theorem zd_9_71 : zkall cX9_fellOf zk_9_71 = true := zd_9_71_0
theorem zd_9_72_0 : zkall cX9_thread zk_9_72_0 = true := by decide +kernel
theorem zd_9_72 : zkall cX9_thread zk_9_72 = true := zd_9_72_0
theorem zd_9_73_0 : zkall cX9_leftOut zk_9_73_0 = true := by decide +kernel
theorem zd_9_73 : zkall cX9_leftOut zk_9_73 = true := zd_9_73_0
theorem zd_9_74_0 : zkall cX9_blocks zk_9_74_0 = true := by decide +kernel
theorem zd_9_74 : zkall cX9_blocks zk_9_74 = true := zd_9_74_0
theorem zd_9_75_0 : zkall cX9_fell zk_9_75_0 = true := by decide +kernel
theorem zd_9_75 : zkall cX9_fell zk_9_75 = true := zd_9_75_0
theorem zd_9_76_0 : zkall cX9_noWord zk_9_76_0 = true := by decide +kernel
theorem zd_9_76 : zkall cX9_noWord zk_9_76 = true := zd_9_76_0
theorem zd_9_77_0 : zkall cX9_word zk_9_77_0 = true := by decide +kernel
theorem zd_9_77 : zkall cX9_word zk_9_77 = true := zd_9_77_0
theorem zd_9_78_0 : zkall cX9_sees zk_9_78_0 = true := by decide +kernel
theorem zd_9_78 : zkall cX9_sees zk_9_78 = true := zd_9_78_0
theorem zd_9_79_0 : zkall cX9_leavers zk_9_79_0 = true := by decide +kernel
theorem zd_9_79 : zkall cX9_leavers zk_9_79 = true := zd_9_79_0
