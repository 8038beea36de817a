/-! the tables, decided -/
theorem zkm0 : (List.range' 0 6).all zchkM = true := by decide +kernel
theorem zkp0 : (List.range' 0 6).all (fun y => zchkP y (zlen y)) = true := by decide +kernel
theorem zkm6 : (List.range' 6 8).all zchkM = true := by decide +kernel
theorem zkp6 : (List.range' 6 8).all (fun y => zchkP y (zlen y)) = true := by decide +kernel
theorem zkm14 : (List.range' 14 9).all zchkM = true := by decide +kernel
theorem zkp14 : (List.range' 14 9).all (fun y => zchkP y (zlen y)) = true := by decide +kernel
theorem zkm23 : (List.range' 23 1).all zchkM = true := by decide +kernel
theorem zkp23 : (List.range' 23 1).all (fun y => zchkP y (zlen y)) = true := by decide +kernel
