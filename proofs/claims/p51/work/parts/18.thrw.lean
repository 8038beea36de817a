/-! Throw sites: an exception made and thrown; its words by their places. -/
/-- the constructor of an exception: what it calls by which place, its bytes -/
def zix (x : Nat) : Nat := bif Nat.beq x 4 then 13 else 7
def zrx (x : Nat) : ByteArray := bif Nat.beq x 4 then ⟨#[0x2a, 0x2b, 0xb7, 0x00, 0x0d, 0xb1]⟩ else Bundle.six
theorem zrx_ok (x : Nat) : decode (zrx x) 0 = .ok (.aload_n 0, 1) ∧ decode (zrx x) 1 = .ok (.aload_n 1, 1) ∧ decode (zrx x) 2 = .ok (.invokespecial (zix x), 3) ∧ decode (zrx x) 5 = .ok (.return_, 1) := by
  unfold zrx zix
  cases Nat.beq x 4
  · exact ⟨by decide +kernel, by decide +kernel, by decide +kernel, by decide +kernel⟩
  · exact ⟨by decide +kernel, by decide +kernel, by decide +kernel, by decide +kernel⟩
def zRT : List String := ["java/lang/Exception"]
/-- the words of an exception -/
def zat1 (X : String) (ix : Nat) (rx : ByteArray) : List Cond := Bundle.throwableAtoms ++ Bundle.throwableSAtoms ++ (Bundle.passSAtoms X "java/lang/RuntimeException" ix rx ++ Bundle.chainSAtoms "java/lang/RuntimeException" zRT) ++
  [.instantiable X 6, .castable X X, .selects X Bundle.tFill0 Bundle.tFill0, .selects X Bundle.tFill Bundle.tFill,
   .lays X Bundle.tN "cause" "Ljava/lang/Throwable;", .lays X Bundle.tN "stackTrace" Bundle.steD, .lays X Bundle.tN "suppressedExceptions" Bundle.listD, .lays X Bundle.tN "detailMessage" "Ljava/lang/String;",
   .isRef (.static Bundle.tN "UNASSIGNED_STACK" Bundle.steD), .isRef (.static Bundle.tN "SUPPRESSED_SENTINEL" Bundle.listD),
   .fieldLink Bundle.tN 198 Bundle.tN "backtrace" "Ljava/lang/Object;", .lays Bundle.tN Bundle.tN "backtrace" "Ljava/lang/Object;", .lays X Bundle.tN "backtrace" "Ljava/lang/Object;"]
def zatX (own : String) (ic : Nat) (X : String) (ix : Nat) (rx : ByteArray) : List Cond := .methodLink own ic (Bundle.initS X) :: zat1 X ix rx
def zxP : Nat → List Nat := fun i => (bif Nat.ble i 1 then (bif Nat.ble i 0 then [1004, 1159, 1168, 1175, 1178, 1180, 1160, 1161, 1028, 1029, 1162, 1167, 1176, 1196, 1149, 1197, 1151, 1198, 1153, 1163, 1165, 1155, 1192, 1193, 1195, 1155, 2021, 2022, 2023, 1186, 1186, 1187, 1188, 1189, 1189, 1190, 1191, 1192, 2011, 2013, 1171, 2014, 2015, 2016, 2017, 1158, 1157, 2018] else [1004, 1159, 1168, 1175, 1178, 1180, 1160, 1161, 1028, 1029, 1162, 1167, 1176, 1196, 1149, 1197, 1151, 1198, 1153, 1163, 1165, 1155, 1192, 1193, 1195, 1155, 2045, 2046, 2047, 1186, 1186, 1187, 1188, 1189, 1189, 1190, 1191, 1192, 2035, 2037, 1173, 2038, 2039, 2040, 2041, 1158, 1157, 2042]) else (bif Nat.ble i 2 then [1004, 1159, 1168, 1175, 1178, 1180, 1160, 1161, 1028, 1029, 1162, 1167, 1176, 1196, 1149, 1197, 1151, 1198, 1153, 1163, 1165, 1155, 1192, 1193, 1195, 1155, 2214, 2215, 2216, 1186, 1186, 1187, 1188, 1189, 1189, 1190, 1191, 1192, 2204, 2206, 1172, 2207, 2208, 2209, 2210, 1158, 1157, 2211] else (bif Nat.ble i 3 then [1004, 1159, 1168, 1175, 1178, 1180, 1160, 1161, 1028, 1029, 1162, 1167, 1176, 1196, 1149, 1197, 1151, 1198, 1153, 1163, 1165, 1155, 1192, 1193, 1195, 1155, 1183, 1184, 1185, 1186, 1186, 1187, 1188, 1189, 1189, 1190, 1191, 1192, 1138, 1146, 1147, 1148, 1150, 1152, 1154, 1158, 1157, 1156] else [1004, 1159, 1168, 1175, 1178, 1180, 1160, 1161, 1028, 1029, 1162, 1167, 1176, 1196, 1149, 1197, 1151, 1198, 1153, 1163, 1165, 1155, 1192, 1193, 1195, 1155, 4053, 4054, 4055, 1186, 1186, 1187, 1188, 1189, 1189, 1190, 1191, 1192, 4043, 4045, 1174, 4046, 4047, 4048, 4049, 1158, 1157, 4050])))
def zthw : Nat → Nat × Nat := fun i => (bif Nat.ble i 16 then (bif Nat.ble i 7 then (bif Nat.ble i 3 then (bif Nat.ble i 1 then (bif Nat.ble i 0 then (2034, 2044) else (2203, 2213)) else (bif Nat.ble i 2 then (2203, 2213) else (2010, 2020))) else (bif Nat.ble i 5 then (bif Nat.ble i 4 then (2203, 2213) else (4042, 4052)) else (bif Nat.ble i 6 then (4042, 4052) else (4042, 4052)))) else (bif Nat.ble i 11 then (bif Nat.ble i 9 then (bif Nat.ble i 8 then (4042, 4052) else (2034, 2044)) else (bif Nat.ble i 10 then (2034, 2044) else (2034, 2044))) else (bif Nat.ble i 13 then (bif Nat.ble i 12 then (2034, 2044) else (2034, 2044)) else (bif Nat.ble i 14 then (2034, 2044) else (bif Nat.ble i 15 then (2034, 2044) else (2034, 2044)))))) else (bif Nat.ble i 24 then (bif Nat.ble i 20 then (bif Nat.ble i 18 then (bif Nat.ble i 17 then (2034, 2044) else (2034, 2044)) else (bif Nat.ble i 19 then (2034, 2044) else (2034, 2044))) else (bif Nat.ble i 22 then (bif Nat.ble i 21 then (2034, 2044) else (2034, 2044)) else (bif Nat.ble i 23 then (1137, 1182) else (1137, 1182)))) else (bif Nat.ble i 28 then (bif Nat.ble i 26 then (bif Nat.ble i 25 then (2034, 2044) else (2034, 2044)) else (bif Nat.ble i 27 then (2034, 2044) else (1137, 1182))) else (bif Nat.ble i 30 then (bif Nat.ble i 29 then (2010, 2020) else (2034, 2044)) else (bif Nat.ble i 31 then (2034, 2044) else (bif Nat.ble i 32 then (2010, 2020) else (2034, 2044)))))))
/-- the words that a callee keeps by other rows -/
def zXw : List Cond := [.declares (Bundle.initS "java/lang/RuntimeException"), .declares (Bundle.initS "java/lang/Exception"), .declares (Bundle.initS "java/lang/Throwable"), .castable "java/lang/IllegalArgumentException" "java/lang/IllegalArgumentException", .castable "java/lang/UnsupportedOperationException" "java/lang/UnsupportedOperationException", .castable "java/lang/IllegalStateException" "java/lang/IllegalStateException", .castable "java/lang/IndexOutOfBoundsException" "java/lang/IndexOutOfBoundsException", .castable "java/util/NoSuchElementException" "java/util/NoSuchElementException"]
theorem zXw_in : zXw = [1141, 1143, 1145, 2012, 2036, 2205, 1139, 4044].filterMap zlk := by decide +kernel
theorem zxa0 : ((zat1 (zexn 0) (zix 0) (zrx 0)).filter vx_no).filter goodWord = (zxP 0).filterMap zlk := by decide +kernel
theorem zxb0 : ((zat1 (zexn 0) (zix 0) (zrx 0)).filter vx_no).filter (fun w => !goodWord w) = [.declares (Bundle.initS "java/lang/RuntimeException"), .declares (Bundle.initS "java/lang/Exception"), .declares (Bundle.initS "java/lang/Throwable"), .castable (zexn 0) (zexn 0)] := by decide +kernel
theorem zxc0 : ((zat1 (zexn 0) (zix 0) (zrx 0)).filter vx_no).all vx_ot = true := by decide +kernel
theorem zxa1 : ((zat1 (zexn 1) (zix 1) (zrx 1)).filter vx_no).filter goodWord = (zxP 1).filterMap zlk := by decide +kernel
theorem zxb1 : ((zat1 (zexn 1) (zix 1) (zrx 1)).filter vx_no).filter (fun w => !goodWord w) = [.declares (Bundle.initS "java/lang/RuntimeException"), .declares (Bundle.initS "java/lang/Exception"), .declares (Bundle.initS "java/lang/Throwable"), .castable (zexn 1) (zexn 1)] := by decide +kernel
theorem zxc1 : ((zat1 (zexn 1) (zix 1) (zrx 1)).filter vx_no).all vx_ot = true := by decide +kernel
theorem zxa2 : ((zat1 (zexn 2) (zix 2) (zrx 2)).filter vx_no).filter goodWord = (zxP 2).filterMap zlk := by decide +kernel
theorem zxb2 : ((zat1 (zexn 2) (zix 2) (zrx 2)).filter vx_no).filter (fun w => !goodWord w) = [.declares (Bundle.initS "java/lang/RuntimeException"), .declares (Bundle.initS "java/lang/Exception"), .declares (Bundle.initS "java/lang/Throwable"), .castable (zexn 2) (zexn 2)] := by decide +kernel
theorem zxc2 : ((zat1 (zexn 2) (zix 2) (zrx 2)).filter vx_no).all vx_ot = true := by decide +kernel
theorem zxa3 : ((zat1 (zexn 3) (zix 3) (zrx 3)).filter vx_no).filter goodWord = (zxP 3).filterMap zlk := by decide +kernel
theorem zxb3 : ((zat1 (zexn 3) (zix 3) (zrx 3)).filter vx_no).filter (fun w => !goodWord w) = [.declares (Bundle.initS "java/lang/RuntimeException"), .declares (Bundle.initS "java/lang/Exception"), .declares (Bundle.initS "java/lang/Throwable"), .castable (zexn 3) (zexn 3)] := by decide +kernel
theorem zxc3 : ((zat1 (zexn 3) (zix 3) (zrx 3)).filter vx_no).all vx_ot = true := by decide +kernel
theorem zxa4 : ((zat1 (zexn 4) (zix 4) (zrx 4)).filter vx_no).filter goodWord = (zxP 4).filterMap zlk := by decide +kernel
theorem zxb4 : ((zat1 (zexn 4) (zix 4) (zrx 4)).filter vx_no).filter (fun w => !goodWord w) = [.declares (Bundle.initS "java/lang/RuntimeException"), .declares (Bundle.initS "java/lang/Exception"), .declares (Bundle.initS "java/lang/Throwable"), .castable (zexn 4) (zexn 4)] := by decide +kernel
theorem zxc4 : ((zat1 (zexn 4) (zix 4) (zrx 4)).filter vx_no).all vx_ot = true := by decide +kernel
theorem co5 {P : Nat → Prop} (h0 : P 0) (h1 : P 1) (h2 : P 2) (h3 : P 3) (h4 : P 4) {i : Nat} (hi : i < 5) : P i := by
  rcases (show i = 0 ∨ i = 1 ∨ i = 2 ∨ i = 3 ∨ i = 4 by omega) with rfl | rfl | rfl | rfl | rfl <;> assumption
theorem zxa_in {x : Nat} (hx : x < 5) : ∀ w ∈ ((zat1 (zexn x) (zix x) (zrx x)).filter vx_no).filter goodWord, w ∈ zU := by
  have key : ((zat1 (zexn x) (zix x) (zrx x)).filter vx_no).filter goodWord = (zxP x).filterMap zlk := co5 (P := fun x => ((zat1 (zexn x) (zix x) (zrx x)).filter vx_no).filter goodWord = (zxP x).filterMap zlk) zxa0 zxa1 zxa2 zxa3 zxa4 hx
  intro w hw
  have hg := (List.mem_filter.mp hw).2
  rw [key] at hw
  obtain ⟨i, -, hi⟩ := List.mem_filterMap.mp hw
  exact List.mem_filter.mpr ⟨zlk_in hi, hg⟩
theorem zxb_in {x : Nat} (hx : x < 5) : ∀ w ∈ ((zat1 (zexn x) (zix x) (zrx x)).filter vx_no).filter (fun w => !goodWord w), w ∈ zXw := by
  have key : ((zat1 (zexn x) (zix x) (zrx x)).filter vx_no).filter (fun w => !goodWord w) = [.declares (Bundle.initS "java/lang/RuntimeException"), .declares (Bundle.initS "java/lang/Exception"), .declares (Bundle.initS "java/lang/Throwable"), .castable (zexn x) (zexn x)] := co5 (P := fun x => ((zat1 (zexn x) (zix x) (zrx x)).filter vx_no).filter (fun w => !goodWord w) = [.declares (Bundle.initS "java/lang/RuntimeException"), .declares (Bundle.initS "java/lang/Exception"), .declares (Bundle.initS "java/lang/Throwable"), .castable (zexn x) (zexn x)]) zxb0 zxb1 zxb2 zxb3 zxb4 hx
  rw [key]
  exact co5 (P := fun x => ∀ w ∈ ([.declares (Bundle.initS "java/lang/RuntimeException"), .declares (Bundle.initS "java/lang/Exception"), .declares (Bundle.initS "java/lang/Throwable"), .castable (zexn x) (zexn x)] : List Cond), w ∈ zXw) (by decide +kernel) (by decide +kernel) (by decide +kernel) (by decide +kernel) (by decide +kernel) hx
theorem zxc_ok {x : Nat} (hx : x < 5) : ∀ w ∈ (zat1 (zexn x) (zix x) (zrx x)).filter vx_no, vx_ot w = true := by
  have key : ((zat1 (zexn x) (zix x) (zrx x)).filter vx_no).all vx_ot = true := co5 (P := fun x => ((zat1 (zexn x) (zix x) (zrx x)).filter vx_no).all vx_ot = true) zxc0 zxc1 zxc2 zxc3 zxc4 hx
  exact fun w hw => List.all_eq_true.mp key w hw
theorem zxf_ok {x : Nat} (hx : x < 5) : Bundle.fit (zexn x) = true := co5 (P := fun x => Bundle.fit (zexn x) = true) (by decide +kernel) (by decide +kernel) (by decide +kernel) (by decide +kernel) (by decide +kernel) hx
theorem zxi_in {x : Nat} (hx : x < 5) : Cond.initialized (zexn x) ∈ zU := co5 (P := fun x => Cond.initialized (zexn x) ∈ zU) (zwd_in (i := 1007) (by decide +kernel)) (zwd_in (i := 1012) (by decide +kernel)) (zwd_in (i := 1008) (by decide +kernel)) (zwd_in (i := 1013) (by decide +kernel)) (zwd_in (i := 1020) (by decide +kernel)) hx
/-- the length of the instruction that loads the text -/
def zlx (i : Nat) : Nat := bif (zthr i).2.2.2.2 then 3 else 2
noncomputable def zchkX (i : Nat) : Bool := Nat.blt (zthr i).1 5 && Nat.blt (zthm i).1 298 && zwd (zthw i).1 (.classLink (zown (zthm i).1) (zthr i).2.1 (zexn (zthr i).1)) && zwd (zthw i).2 (.methodLink (zown (zthm i).1) (zthr i).2.2.2.1 (Bundle.initS (zexn (zthr i).1))) &&
  decide (decode (zcode (zthm i).1) (zthm i).2 = .ok (.new (zthr i).2.1, 3)) && decide (decode (zcode (zthm i).1) ((zthm i).2 + 3) = .ok (.dup, 1)) && decide (decode (zcode (zthm i).1) ((zthm i).2 + 4) = .ok (bif (zthr i).2.2.2.2 then (.ldc_w (zthr i).2.2.1, 3) else (.ldc (zthr i).2.2.1, 2))) &&
  decide (decode (zcode (zthm i).1) ((zthm i).2 + 4 + zlx i) = .ok (.invokespecial (zthr i).2.2.2.1, 3)) && decide (decode (zcode (zthm i).1) ((zthm i).2 + 4 + zlx i + 3) = .ok (.athrow, 1))
theorem zchk_x0 : (List.range' 0 17).all zchkX = true := by decide +kernel
theorem zchk_x1 : (List.range' 17 17).all zchkX = true := by decide +kernel
theorem zchk_x (i : Nat) (hi : i < 34) : zchkX i = true := by
  by_cases h : i < 17
  · exact zall_in zchk_x0 (by omega) (by omega)
  · exact zall_in zchk_x1 (by omega) (by omega)
