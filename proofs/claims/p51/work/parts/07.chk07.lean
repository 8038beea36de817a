/-! the law, decided -/
theorem zkr1050 : zchkR 1050 70 = true := by decide +kernel
theorem zkr1120 : zchkR 1120 70 = true := by decide +kernel
theorem zkr1190 : zchkR 1190 70 = true := by decide +kernel
theorem zkr1260 : zchkR 1260 70 = true := by decide +kernel
theorem zkr1330 : zchkR 1330 70 = true := by decide +kernel
