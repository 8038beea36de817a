/-! the law, decided -/
theorem zkr2100 : zchkR 2100 70 = true := by decide +kernel
theorem zkr2170 : zchkR 2170 70 = true := by decide +kernel
theorem zkr2240 : zchkR 2240 70 = true := by decide +kernel
theorem zkr2310 : zchkR 2310 70 = true := by decide +kernel
theorem zkr2380 : zchkR 2380 70 = true := by decide +kernel
