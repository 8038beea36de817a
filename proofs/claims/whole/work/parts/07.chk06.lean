/-! the tables, decided -/
theorem zkm148 : (List.range' 148 12).all zchkM = true := by decide +kernel
theorem zkp148 : (List.range' 148 12).all (fun y => zchkP y (zlen y)) = true := by decide +kernel
theorem zkm160 : (List.range' 160 9).all zchkM = true := by decide +kernel
theorem zkp160 : (List.range' 160 9).all (fun y => zchkP y (zlen y)) = true := by decide +kernel
theorem zkm169 : (List.range' 169 3).all zchkM = true := by decide +kernel
theorem zkp169 : (List.range' 169 3).all (fun y => zchkP y (zlen y)) = true := by decide +kernel
