theorem zd_9_80_0 : zkall cX9_lock zk_9_80_0 = true := by decide +kernel
theorem zd_9_80 : zkall cX9_lock zk_9_80 = true := zd_9_80_0
theorem zd_9_81_0 : zkall cX9_term zk_9_81_0 = true := by decide +kernel
theorem zd_9_81 : zkall cX9_term zk_9_81 = true := zd_9_81_0
theorem zd_9_82_0 : zkall cX9_deed zk_9_82_0 = true := by decide +kernel
theorem zd_9_82 : zkall cX9_deed zk_9_82 = true := zd_9_82_0
theorem zd_9_83_0 : zkall cX9_output zk_9_83_0 = true := by decide +kernel
theorem zd_9_83 : zkall cX9_output zk_9_83 = true := zd_9_83_0
theorem zd_9_84_0 : zkall cX9_log zk_9_84_0 = true := by decide +kernel
theorem zd_9_84 : zkall cX9_log zk_9_84 = true := zd_9_84_0
theorem zd_9_85_0 : zkall cX9_guessing zk_9_85_0 = true := by decide +kernel
theorem zd_9_85 : zkall cX9_guessing zk_9_85 = true := zd_9_85_0
theorem zd_9_86_0 : zkall cX9_keptAll zk_9_86_0 = true := by decide +kernel
theorem zd_9_86 : zkall cX9_keptAll zk_9_86 = true := zd_9_86_0
theorem zd_9_87_0 : zkall cX9_heldLocks zk_9_87_0 = true := by decide +kernel
theorem zd_9_87 : zkall cX9_heldLocks zk_9_87 = true := zd_9_87_0
theorem zd_9_88_0 : zkall cX9_count zk_9_88_0 = true := by decide +kernel
theorem zd_9_88 : zkall cX9_count zk_9_88 = true := zd_9_88_0
theorem zd_9_89_0 : zkall cX9_dueOf zk_9_89_0 = true := by decide +kernel
theorem zd_9_89 : zkall cX9_dueOf zk_9_89 = true := zd_9_89_0
theorem zd_9_90_0 : zkall cX9_due zk_9_90_0 = true := by decide +kernel
theorem zd_9_90 : zkall cX9_due zk_9_90 = true := zd_9_90_0
theorem zd_9_91_0 : zkall cX9_dueBy zk_9_91_0 = true := by decide +kernel
theorem zd_9_91 : zkall cX9_dueBy zk_9_91 = true := zd_9_91_0
theorem zd_9_92_0 : zkall cX9_quickest zk_9_92_0 = true := by decide +kernel
theorem zd_9_92 : zkall cX9_quickest zk_9_92 = true := zd_9_92_0
theorem zd_9_93_0 : zkall cX9_plain zk_9_93_0 = true := by decide +kernel
theorem zd_9_93 : zkall cX9_plain zk_9_93 = true := zd_9_93_0
theorem zd_9_94_0 : zkall cX9_touched zk_9_94_0 = true := by decide +kernel
theorem zd_9_94 : zkall cX9_touched zk_9_94 = true := zd_9_94_0
theorem zd_9_95_0 : zkall cX9_touches zk_9_95_0 = true := by decide +kernel
theorem zd_9_95 : zkall cX9_touches zk_9_95 = true := zd_9_95_0
theorem zd_9_96_0 : zkall cX9_rivals zk_9_96_0 = true := by decide +kernel
theorem zd_9_96 : zkall cX9_rivals zk_9_96 = true := zd_9_96_0
theorem zd_9_97_0 : zkall cX9_heldBehind zk_9_97_0 = true := by decide +kernel
theorem zd_9_97 : zkall cX9_heldBehind zk_9_97 = true := zd_9_97_0
theorem zd_9_98_0 : zkall cX9_nest zk_9_98_0 = true := by decide +kernel
theorem zd_9_98 : zkall cX9_nest zk_9_98 = true := zd_9_98_0
theorem zd_9_99_0 : zkall cX9_behindPart zk_9_99_0 = true := by decide +kernel
theorem zd_9_99 : zkall cX9_behindPart zk_9_99 = true := zd_9_99_0
theorem zd_9_100_0 : zkall cX9_partsOf zk_9_100_0 = true := by decide +kernel
theorem zd_9_100 : zkall cX9_partsOf zk_9_100 = true := zd_9_100_0
theorem zd_9_101_0 : zkall cX9_parts zk_9_101_0 = true := by decide +kernel
theorem zd_9_101 : zkall cX9_parts zk_9_101 = true := zd_9_101_0
theorem zd_9_102_0 : zkall cX9_doesDeed zk_9_102_0 = true := by decide +kernel
theorem zd_9_102_1 : zkall cX9_doesDeed zk_9_102_1 = true := by decide +kernel
theorem zd_9_102 : zkall cX9_doesDeed zk_9_102 = true := zkall_app zd_9_102_0 (zd_9_102_1)
theorem zd_9_103_0 : zkall cX9_putsWhole zk_9_103_0 = true := by decide +kernel
theorem zd_9_103 : zkall cX9_putsWhole zk_9_103 = true := zd_9_103_0
theorem zd_9_104_0 : zkall cX9_isAsNow zk_9_104_0 = true := by decide +kernel
theorem zd_9_104 : zkall cX9_isAsNow zk_9_104 = true := zd_9_104_0
theorem zd_9_105_0 : zkall cX9_orders zk_9_105_0 = true := by decide +kernel
theorem zd_9_105_1 : zkall cX9_orders zk_9_105_1 = true := by decide +kernel
theorem zd_9_105 : zkall cX9_orders zk_9_105 = true := zkall_app zd_9_105_0 (zd_9_105_1)
theorem zd_9_106_0 : zkall cX9_serial zk_9_106_0 = true := by decide +kernel
theorem zd_9_106 : zkall cX9_serial zk_9_106 = true := zd_9_106_0
theorem zd_9_107_0 : zkall cX9_prints zk_9_107_0 = true := by decide +kernel
theorem zd_9_107 : zkall cX9_prints zk_9_107 = true := zd_9_107_0
theorem zd_9_108_0 : zkall cX9_printsNumber zk_9_108_0 = true := by decide +kernel
theorem zd_9_108 : zkall cX9_printsNumber zk_9_108 = true := zd_9_108_0
theorem zd_9_109_0 : zkall cX9_printsDeed zk_9_109_0 = true := by decide +kernel
theorem zd_9_109 : zkall cX9_printsDeed zk_9_109 = true := zd_9_109_0
theorem zd_9_110_0 : zkall cX9_text zk_9_110_0 = true := by decide +kernel
theorem zd_9_110 : zkall cX9_text zk_9_110 = true := zd_9_110_0
theorem zd_9_111_0 : zkall cX9_octet zk_9_111_0 = true := by decide +kernel
theorem zd_9_111 : zkall cX9_octet zk_9_111 = true := zd_9_111_0
