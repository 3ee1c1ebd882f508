theorem zd_10_24_3 : zkall cL_law zk_10_24_3 = true := by decide +kernel
theorem zd_10_24_4 : zkall cL_law zk_10_24_4 = true := by decide +kernel
theorem zd_10_24_5 : zkall cL_law zk_10_24_5 = true := by decide +kernel
