/-! the tables, decided -/
theorem zkm266 : (List.range' 266 15).all zchkM = true := by decide +kernel
theorem zkp266 : (List.range' 266 15).all (fun y => zchkP y (zlen y)) = true := by decide +kernel
theorem zkm281 : (List.range' 281 14).all zchkM = true := by decide +kernel
theorem zkp281 : (List.range' 281 14).all (fun y => zchkP y (zlen y)) = true := by decide +kernel
theorem zkm295 : (List.range' 295 3).all zchkM = true := by decide +kernel
theorem zkp295 : (List.range' 295 3).all (fun y => zchkP y (zlen y)) = true := by decide +kernel
