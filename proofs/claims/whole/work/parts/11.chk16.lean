/-! the law, decided -/
theorem zkr2520 : zchkR 2520 280 = true := by decide +kernel
theorem zkr2800 : zchkR 2800 280 = true := by decide +kernel
theorem zkr3080 : zchkR 3080 280 = true := by decide +kernel
