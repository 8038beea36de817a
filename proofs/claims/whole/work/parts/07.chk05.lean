/-! the tables, decided -/
theorem zkm118 : (List.range' 118 12).all zchkM = true := by decide +kernel
theorem zkp118 : (List.range' 118 12).all (fun y => zchkP y (zlen y)) = true := by decide +kernel
theorem zkm130 : (List.range' 130 9).all zchkM = true := by decide +kernel
theorem zkp130 : (List.range' 130 9).all (fun y => zchkP y (zlen y)) = true := by decide +kernel
theorem zkm139 : (List.range' 139 8).all zchkM = true := by decide +kernel
theorem zkp139 : (List.range' 139 8).all (fun y => zchkP y (zlen y)) = true := by decide +kernel
theorem zkm147 : (List.range' 147 1).all zchkM = true := by decide +kernel
theorem zkp147 : (List.range' 147 1).all (fun y => zchkP y (zlen y)) = true := by decide +kernel
