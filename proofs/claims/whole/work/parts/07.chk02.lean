/-! the tables, decided -/
theorem zkm24 : (List.range' 24 10).all zchkM = true := by decide +kernel
theorem zkp24 : (List.range' 24 10).all (fun y => zchkP y (zlen y)) = true := by decide +kernel
theorem zkm34 : (List.range' 34 8).all zchkM = true := by decide +kernel
theorem zkp34 : (List.range' 34 8).all (fun y => zchkP y (zlen y)) = true := by decide +kernel
theorem zkm42 : (List.range' 42 11).all zchkM = true := by decide +kernel
theorem zkp42 : (List.range' 42 11).all (fun y => zchkP y (zlen y)) = true := by decide +kernel
theorem zkm53 : (List.range' 53 2).all zchkM = true := by decide +kernel
theorem zkp53 : (List.range' 53 2).all (fun y => zchkP y (zlen y)) = true := by decide +kernel
