/-! the law, decided -/
theorem zkr1120 : zchkR 1120 280 = true := by decide +kernel
