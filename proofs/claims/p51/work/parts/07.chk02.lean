/-! the tables, decided -/
theorem zkm41 : (List.range' 41 34).all zchkM = true := by decide +kernel
theorem zkp41 : (List.range' 41 34).all (fun y => zchkP y (zlen y)) = true := by decide +kernel
theorem zkm75 : (List.range' 75 22).all zchkM = true := by decide +kernel
theorem zkp75 : (List.range' 75 22).all (fun y => zchkP y (zlen y)) = true := by decide +kernel
theorem zkm97 : (List.range' 97 17).all zchkM = true := by decide +kernel
theorem zkp97 : (List.range' 97 17).all (fun y => zchkP y (zlen y)) = true := by decide +kernel
theorem zkm114 : (List.range' 114 30).all zchkM = true := by decide +kernel
theorem zkp114 : (List.range' 114 30).all (fun y => zchkP y (zlen y)) = true := by decide +kernel
