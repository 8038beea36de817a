/-! the tables, decided -/
theorem zkm55 : (List.range' 55 8).all zchkM = true := by decide +kernel
theorem zkp55 : (List.range' 55 8).all (fun y => zchkP y (zlen y)) = true := by decide +kernel
theorem zkm63 : (List.range' 63 11).all zchkM = true := by decide +kernel
theorem zkp63 : (List.range' 63 11).all (fun y => zchkP y (zlen y)) = true := by decide +kernel
theorem zkm74 : (List.range' 74 7).all zchkM = true := by decide +kernel
theorem zkp74 : (List.range' 74 7).all (fun y => zchkP y (zlen y)) = true := by decide +kernel
theorem zkm81 : (List.range' 81 1).all zchkM = true := by decide +kernel
theorem zkp81 : (List.range' 81 1).all (fun y => zchkP y (zlen y)) = true := by decide +kernel
