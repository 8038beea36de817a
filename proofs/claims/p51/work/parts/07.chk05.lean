/-! the law, decided -/
theorem zkr350 : zchkR 350 70 = true := by decide +kernel
theorem zkr420 : zchkR 420 70 = true := by decide +kernel
theorem zkr490 : zchkR 490 70 = true := by decide +kernel
theorem zkr560 : zchkR 560 70 = true := by decide +kernel
theorem zkr630 : zchkR 630 70 = true := by decide +kernel
