/-! the law, decided -/
theorem zkr2450 : zchkR 2450 70 = true := by decide +kernel
theorem zkr2520 : zchkR 2520 70 = true := by decide +kernel
theorem zkr2590 : zchkR 2590 70 = true := by decide +kernel
theorem zkr2660 : zchkR 2660 70 = true := by decide +kernel
theorem zkr2730 : zchkR 2730 70 = true := by decide +kernel
