theorem zkm0 : (List.range' 0 20).all zchkM = true := by decide +kernel
theorem zkp0 : (List.range' 0 20).all (fun y => zchkP y (zlen y)) = true := by decide +kernel
