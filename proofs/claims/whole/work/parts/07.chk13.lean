/-! the law, decided -/
theorem zkr0 : zchkR 0 280 = true := by decide +kernel
theorem zkr280 : zchkR 280 280 = true := by decide +kernel
theorem zkr560 : zchkR 560 280 = true := by decide +kernel
