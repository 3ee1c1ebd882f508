/-! the law's one round, by the kernel: the longer ones -/
theorem zyq_0 : zyq 0 0 = true := by decide +kernel
theorem zyq_8 : zyq 8 8 = true := by decide +kernel
theorem zyq_26 : zyq 26 26 = true := by decide +kernel
