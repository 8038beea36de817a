/-! the law, decided -/
theorem zkr0 : zchkR 0 70 = true := by decide +kernel
theorem zkr70 : zchkR 70 70 = true := by decide +kernel
theorem zkr140 : zchkR 140 70 = true := by decide +kernel
theorem zkr210 : zchkR 210 70 = true := by decide +kernel
theorem zkr280 : zchkR 280 70 = true := by decide +kernel
