/-! the law's one round, by the kernel: the longer ones -/
theorem zyq_20 : zyq 20 20 = true := by decide +kernel
