/-! the law, decided -/
theorem zkr2800 : zchkR 2800 70 = true := by decide +kernel
theorem zkr2870 : zchkR 2870 70 = true := by decide +kernel
theorem zkr2940 : zchkR 2940 70 = true := by decide +kernel
theorem zkr3010 : zchkR 3010 70 = true := by decide +kernel
theorem zkr3080 : zchkR 3080 70 = true := by decide +kernel
