/-! the tables, decided -/
theorem zkm0 : (List.range' 0 7).all zchkM = true := by decide +kernel
theorem zkp0 : (List.range' 0 7).all (fun y => zchkP y (zlen y)) = true := by decide +kernel
theorem zkm7 : (List.range' 7 10).all zchkM = true := by decide +kernel
theorem zkp7 : (List.range' 7 10).all (fun y => zchkP y (zlen y)) = true := by decide +kernel
theorem zkm17 : (List.range' 17 10).all zchkM = true := by decide +kernel
theorem zkp17 : (List.range' 17 10).all (fun y => zchkP y (zlen y)) = true := by decide +kernel
theorem zkm27 : (List.range' 27 14).all zchkM = true := by decide +kernel
theorem zkp27 : (List.range' 27 14).all (fun y => zchkP y (zlen y)) = true := by decide +kernel
