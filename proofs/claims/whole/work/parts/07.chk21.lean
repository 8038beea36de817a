/-! the law, decided -/
theorem zkr3150 : zchkR 3150 70 = true := by decide +kernel
theorem zkr3220 : zchkR 3220 70 = true := by decide +kernel
theorem zkr3290 : zchkR 3290 70 = true := by decide +kernel
theorem zkr3360 : zchkR 3360 70 = true := by decide +kernel
