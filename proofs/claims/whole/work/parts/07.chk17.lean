/-! the law, decided -/
theorem zkr1750 : zchkR 1750 70 = true := by decide +kernel
theorem zkr1820 : zchkR 1820 70 = true := by decide +kernel
theorem zkr1890 : zchkR 1890 70 = true := by decide +kernel
theorem zkr1960 : zchkR 1960 70 = true := by decide +kernel
theorem zkr2030 : zchkR 2030 70 = true := by decide +kernel
