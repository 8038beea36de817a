/-! the law, decided -/
theorem zkr700 : zchkR 700 70 = true := by decide +kernel
theorem zkr770 : zchkR 770 70 = true := by decide +kernel
theorem zkr840 : zchkR 840 70 = true := by decide +kernel
theorem zkr910 : zchkR 910 70 = true := by decide +kernel
theorem zkr980 : zchkR 980 70 = true := by decide +kernel
