theorem zd_10_24_0 : zkall cL_law zk_10_24_0 = true := by decide +kernel
theorem zd_10_24_1 : zkall cL_law zk_10_24_1 = true := by decide +kernel
theorem zd_10_24_2 : zkall cL_law zk_10_24_2 = true := by decide +kernel
