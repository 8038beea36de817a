/-! the tables, decided -/
theorem zkm187 : (List.range' 187 5).all zchkM = true := by decide +kernel
theorem zkp187 : (List.range' 187 5).all (fun y => zchkP y (zlen y)) = true := by decide +kernel
theorem zkm192 : (List.range' 192 4).all zchkM = true := by decide +kernel
theorem zkp192 : (List.range' 192 4).all (fun y => zchkP y (zlen y)) = true := by decide +kernel
theorem zkm196 : (List.range' 196 5).all zchkM = true := by decide +kernel
theorem zkp196 : (List.range' 196 5).all (fun y => zchkP y (zlen y)) = true := by decide +kernel
theorem zkm201 : (List.range' 201 1).all zchkM = true := by decide +kernel
theorem zkp201 : (List.range' 201 1).all (fun y => zchkP y (zlen y)) = true := by decide +kernel
