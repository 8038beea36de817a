/-! the law, decided -/
theorem zkr3360 : zchkR 3360 6 = true := by decide +kernel
