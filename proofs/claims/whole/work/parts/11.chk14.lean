/-! the law, decided -/
theorem zkr840 : zchkR 840 280 = true := by decide +kernel
theorem zkr1120 : zchkR 1120 280 = true := by decide +kernel
theorem zkr1400 : zchkR 1400 280 = true := by decide +kernel
