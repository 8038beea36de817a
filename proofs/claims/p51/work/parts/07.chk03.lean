/-! the tables, decided -/
theorem zkm144 : (List.range' 144 44).all zchkM = true := by decide +kernel
theorem zkp144 : (List.range' 144 44).all (fun y => zchkP y (zlen y)) = true := by decide +kernel
theorem zkm188 : (List.range' 188 66).all zchkM = true := by decide +kernel
theorem zkp188 : (List.range' 188 66).all (fun y => zchkP y (zlen y)) = true := by decide +kernel
theorem zkm254 : (List.range' 254 44).all zchkM = true := by decide +kernel
theorem zkp254 : (List.range' 254 44).all (fun y => zchkP y (zlen y)) = true := by decide +kernel
