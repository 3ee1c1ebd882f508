/-! the law's one round, by the kernel: the longer ones -/
theorem zyq_16 : zyq 16 16 = true := by decide +kernel
