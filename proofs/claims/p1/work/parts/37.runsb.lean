/-! the law's one round, by the kernel: the longer ones -/
theorem zyq_10 : zyq 10 10 = true := by decide +kernel
theorem zyq_17 : zyq 17 17 = true := by decide +kernel
