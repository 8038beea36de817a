/-! the law, decided -/
theorem zkr1680 : zchkR 1680 280 = true := by decide +kernel
theorem zkr1960 : zchkR 1960 280 = true := by decide +kernel
theorem zkr2240 : zchkR 2240 280 = true := by decide +kernel
