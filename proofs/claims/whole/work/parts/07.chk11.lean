/-! the tables, decided -/
theorem zkm240 : (List.range' 240 6).all zchkM = true := by decide +kernel
theorem zkp240 : (List.range' 240 6).all (fun y => zchkP y (zlen y)) = true := by decide +kernel
theorem zkm246 : (List.range' 246 7).all zchkM = true := by decide +kernel
theorem zkp246 : (List.range' 246 7).all (fun y => zchkP y (zlen y)) = true := by decide +kernel
theorem zkm253 : (List.range' 253 13).all zchkM = true := by decide +kernel
theorem zkp253 : (List.range' 253 13).all (fun y => zchkP y (zlen y)) = true := by decide +kernel
