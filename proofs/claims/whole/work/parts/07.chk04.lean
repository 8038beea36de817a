/-! the tables, decided -/
theorem zkm82 : (List.range' 82 11).all zchkM = true := by decide +kernel
theorem zkp82 : (List.range' 82 11).all (fun y => zchkP y (zlen y)) = true := by decide +kernel
theorem zkm93 : (List.range' 93 7).all zchkM = true := by decide +kernel
theorem zkp93 : (List.range' 93 7).all (fun y => zchkP y (zlen y)) = true := by decide +kernel
theorem zkm100 : (List.range' 100 14).all zchkM = true := by decide +kernel
theorem zkp100 : (List.range' 100 14).all (fun y => zchkP y (zlen y)) = true := by decide +kernel
theorem zkm114 : (List.range' 114 4).all zchkM = true := by decide +kernel
theorem zkp114 : (List.range' 114 4).all (fun y => zchkP y (zlen y)) = true := by decide +kernel
