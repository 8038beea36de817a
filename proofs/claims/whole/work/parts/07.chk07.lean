/-! the tables, decided -/
theorem zkm172 : (List.range' 172 5).all zchkM = true := by decide +kernel
theorem zkp172 : (List.range' 172 5).all (fun y => zchkP y (zlen y)) = true := by decide +kernel
theorem zkm177 : (List.range' 177 4).all zchkM = true := by decide +kernel
theorem zkp177 : (List.range' 177 4).all (fun y => zchkP y (zlen y)) = true := by decide +kernel
theorem zkm181 : (List.range' 181 6).all zchkM = true := by decide +kernel
theorem zkp181 : (List.range' 181 6).all (fun y => zchkP y (zlen y)) = true := by decide +kernel
