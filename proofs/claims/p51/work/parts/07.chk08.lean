/-! the law, decided -/
theorem zkr1400 : zchkR 1400 70 = true := by decide +kernel
theorem zkr1470 : zchkR 1470 70 = true := by decide +kernel
theorem zkr1540 : zchkR 1540 31 = true := by decide +kernel
