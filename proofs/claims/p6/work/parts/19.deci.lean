theorem zd_10_24_6 : zkall cL_law zk_10_24_6 = true := by decide +kernel
theorem zd_10_24_7 : zkall cL_law zk_10_24_7 = true := by decide +kernel
