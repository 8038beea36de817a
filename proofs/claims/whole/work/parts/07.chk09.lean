/-! the tables, decided -/
theorem zkm202 : (List.range' 202 7).all zchkM = true := by decide +kernel
theorem zkp202 : (List.range' 202 7).all (fun y => zchkP y (zlen y)) = true := by decide +kernel
theorem zkm209 : (List.range' 209 7).all zchkM = true := by decide +kernel
theorem zkp209 : (List.range' 209 7).all (fun y => zchkP y (zlen y)) = true := by decide +kernel
theorem zkm216 : (List.range' 216 9).all zchkM = true := by decide +kernel
theorem zkp216 : (List.range' 216 9).all (fun y => zchkP y (zlen y)) = true := by decide +kernel
