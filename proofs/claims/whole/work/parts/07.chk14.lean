/-! the law, decided -/
theorem zkr840 : zchkR 840 280 = true := by decide +kernel
