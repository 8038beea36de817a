/-! the tables, decided -/
theorem zkm225 : (List.range' 225 6).all zchkM = true := by decide +kernel
theorem zkp225 : (List.range' 225 6).all (fun y => zchkP y (zlen y)) = true := by decide +kernel
theorem zkm231 : (List.range' 231 4).all zchkM = true := by decide +kernel
theorem zkp231 : (List.range' 231 4).all (fun y => zchkP y (zlen y)) = true := by decide +kernel
theorem zkm235 : (List.range' 235 5).all zchkM = true := by decide +kernel
theorem zkp235 : (List.range' 235 5).all (fun y => zchkP y (zlen y)) = true := by decide +kernel
