/-! Throw sites: an exception made and thrown; its words by their places. -/
/-- the constructor of an exception: what it calls by which place, its bytes -/
def zix (x : Nat) : Nat := bif Nat.beq x 4 then 13 else 7
def zrx (x : Nat) : ByteArray := bif Nat.beq x 4 then ⟨#[0x2a, 0x2b, 0xb7, 0x00, 0x0d, 0xb1]⟩ else Bundle.six
theorem zrx_ok (x : Nat) : decode (zrx x) 0 = .ok (.aload_n 0, 1) ∧ decode (zrx x) 1 = .ok (.aload_n 1, 1) ∧ decode (zrx x) 2 = .ok (.invokespecial (zix x), 3) ∧ decode (zrx x) 5 = .ok (.return_, 1) := by
  unfold zrx zix
  cases Nat.beq x 4
  · exact ⟨by decide +kernel, by decide +kernel, by decide +kernel, by decide +kernel⟩
  · exact ⟨by decide +kernel, by decide +kernel, by decide +kernel, by decide +kernel⟩
def zRT : List String := ["java/lang/Exception"]
/-- the words of an exception -/
def zat1 (X : String) (ix : Nat) (rx : ByteArray) : List Cond := Bundle.throwableAtoms ++ Bundle.throwableSAtoms ++ (Bundle.passSAtoms X "java/lang/RuntimeException" ix rx ++ Bundle.chainSAtoms "java/lang/RuntimeException" zRT) ++
  [.instantiable X 6, .castable X X, .selects X Bundle.tFill0 Bundle.tFill0, .selects X Bundle.tFill Bundle.tFill,
   .lays X Bundle.tN "cause" "Ljava/lang/Throwable;", .lays X Bundle.tN "stackTrace" Bundle.steD, .lays X Bundle.tN "suppressedExceptions" Bundle.listD, .lays X Bundle.tN "detailMessage" "Ljava/lang/String;",
   .isRef (.static Bundle.tN "UNASSIGNED_STACK" Bundle.steD), .isRef (.static Bundle.tN "SUPPRESSED_SENTINEL" Bundle.listD),
   .fieldLink Bundle.tN 198 Bundle.tN "backtrace" "Ljava/lang/Object;", .lays Bundle.tN Bundle.tN "backtrace" "Ljava/lang/Object;", .lays X Bundle.tN "backtrace" "Ljava/lang/Object;"]
def zatX (own : String) (ic : Nat) (X : String) (ix : Nat) (rx : ByteArray) : List Cond := .methodLink own ic (Bundle.initS X) :: zat1 X ix rx
def zxP : Nat → List Nat := fun i => (bif Nat.ble i 2 then (bif Nat.ble i 0 then [1005, 2168, 2177, 2185, 2188, 2190, 2169, 2170, 1031, 1032, 2171, 2176, 2186, 2206, 2158, 2207, 2160, 2208, 2162, 2172, 2174, 2164, 2202, 2203, 2205, 2164, 2193, 2194, 2195, 2196, 2196, 2197, 2198, 2199, 2199, 2200, 2201, 2202, 2147, 2155, 2156, 2157, 2159, 2161, 2163, 2167, 2166, 2165] else (bif Nat.ble i 1 then [1005, 2168, 2177, 2185, 2188, 2190, 2169, 2170, 1031, 1032, 2171, 2176, 2186, 2206, 2158, 2207, 2160, 2208, 2162, 2172, 2174, 2164, 2202, 2203, 2205, 2164, 2229, 2230, 2231, 2196, 2196, 2197, 2198, 2199, 2199, 2200, 2201, 2202, 2219, 2221, 2183, 2222, 2223, 2224, 2225, 2167, 2166, 2226] else [1005, 2168, 2177, 2185, 2188, 2190, 2169, 2170, 1031, 1032, 2171, 2176, 2186, 2206, 2158, 2207, 2160, 2208, 2162, 2172, 2174, 2164, 2202, 2203, 2205, 2164, 3005, 3006, 3007, 2196, 2196, 2197, 2198, 2199, 2199, 2200, 2201, 2202, 2235, 2237, 2181, 2238, 2239, 3000, 3001, 2167, 2166, 3002])) else (bif Nat.ble i 3 then [1005, 2168, 2177, 2185, 2188, 2190, 2169, 2170, 1031, 1032, 2171, 2176, 2186, 2206, 2158, 2207, 2160, 2208, 2162, 2172, 2174, 2164, 2202, 2203, 2205, 2164, 3129, 3130, 3131, 2196, 2196, 2197, 2198, 2199, 2199, 2200, 2201, 2202, 3157, 3159, 2182, 3160, 3161, 3162, 3163, 2167, 2166, 3164] else (bif Nat.ble i 4 then [1005, 2168, 2177, 2185, 2188, 2190, 2169, 2170, 1031, 1032, 2171, 2176, 2186, 2206, 2158, 2207, 2160, 2208, 2162, 2172, 2174, 2164, 2202, 2203, 2205, 2164, 4149, 4150, 4151, 2196, 2196, 2197, 2198, 2199, 2199, 2200, 2201, 2202, 4139, 4141, 2184, 4142, 4143, 4144, 4145, 2167, 2166, 4146] else [1005, 2168, 2177, 2185, 2188, 2190, 2169, 2170, 1031, 1032, 2171, 2176, 2186, 2206, 2158, 2207, 2160, 2208, 2162, 2172, 2174, 2164, 2202, 2203, 2205, 2164, 6046, 6047, 6048, 2196, 2196, 2197, 2198, 2199, 2199, 2200, 2201, 2202, 6045, 6057, 2179, 6051, 6052, 6054, 6050, 2167, 2166, 6049])))
def zthw : Nat → Nat × Nat := fun i => (bif Nat.ble i 16 then (bif Nat.ble i 7 then (bif Nat.ble i 3 then (bif Nat.ble i 1 then (bif Nat.ble i 0 then (2218, 2228) else (2234, 3004)) else (bif Nat.ble i 2 then (2234, 3004) else (2146, 2192))) else (bif Nat.ble i 5 then (bif Nat.ble i 4 then (2234, 3004) else (4138, 4148)) else (bif Nat.ble i 6 then (4138, 4148) else (4138, 4148)))) else (bif Nat.ble i 11 then (bif Nat.ble i 9 then (bif Nat.ble i 8 then (4138, 4148) else (2146, 2192)) else (bif Nat.ble i 10 then (2234, 3004) else (4138, 4148))) else (bif Nat.ble i 13 then (bif Nat.ble i 12 then (2218, 2228) else (2234, 3004)) else (bif Nat.ble i 14 then (2146, 2192) else (bif Nat.ble i 15 then (2234, 3004) else (4138, 4148)))))) else (bif Nat.ble i 24 then (bif Nat.ble i 20 then (bif Nat.ble i 18 then (bif Nat.ble i 17 then (2218, 2228) else (4138, 4148)) else (bif Nat.ble i 19 then (4138, 4148) else (2218, 2228))) else (bif Nat.ble i 22 then (bif Nat.ble i 21 then (2218, 2228) else (6066, 6068)) else (bif Nat.ble i 23 then (3156, 3166) else (3156, 3166)))) else (bif Nat.ble i 28 then (bif Nat.ble i 26 then (bif Nat.ble i 25 then (3156, 3166) else (3156, 3166)) else (bif Nat.ble i 27 then (3156, 3166) else (3156, 3166))) else (bif Nat.ble i 30 then (bif Nat.ble i 29 then (2146, 2192) else (2218, 2228)) else (bif Nat.ble i 31 then (2218, 2228) else (bif Nat.ble i 32 then (2146, 2192) else (2218, 2228)))))))
/-- the words that a callee keeps by other rows -/
def zXw : List Cond := [.declares (Bundle.initS "java/lang/RuntimeException"), .declares (Bundle.initS "java/lang/Exception"), .declares (Bundle.initS "java/lang/Throwable"), .castable "java/lang/IllegalArgumentException" "java/lang/IllegalArgumentException", .castable "java/lang/UnsupportedOperationException" "java/lang/UnsupportedOperationException", .castable "java/lang/IllegalStateException" "java/lang/IllegalStateException", .castable "java/lang/IndexOutOfBoundsException" "java/lang/IndexOutOfBoundsException", .castable "java/util/NoSuchElementException" "java/util/NoSuchElementException", .castable "java/lang/ArithmeticException" "java/lang/ArithmeticException", .castable "[I" "java/lang/Cloneable"]
theorem zXw_in : zXw = [2150, 2152, 2154, 2148, 2220, 2236, 3158, 4140, 6056, 8041].filterMap zlk := by decide +kernel
theorem zxa0 : ((zat1 (zexn 0) (zix 0) (zrx 0)).filter vx_no).filter goodWord = (zxP 0).filterMap zlk := by decide +kernel
theorem zxb0 : ((zat1 (zexn 0) (zix 0) (zrx 0)).filter vx_no).filter (fun w => !goodWord w) = [.declares (Bundle.initS "java/lang/RuntimeException"), .declares (Bundle.initS "java/lang/Exception"), .declares (Bundle.initS "java/lang/Throwable"), .castable (zexn 0) (zexn 0)] := by decide +kernel
theorem zxc0 : ((zat1 (zexn 0) (zix 0) (zrx 0)).filter vx_no).all vx_ot = true := by decide +kernel
theorem zxa1 : ((zat1 (zexn 1) (zix 1) (zrx 1)).filter vx_no).filter goodWord = (zxP 1).filterMap zlk := by decide +kernel
theorem zxb1 : ((zat1 (zexn 1) (zix 1) (zrx 1)).filter vx_no).filter (fun w => !goodWord w) = [.declares (Bundle.initS "java/lang/RuntimeException"), .declares (Bundle.initS "java/lang/Exception"), .declares (Bundle.initS "java/lang/Throwable"), .castable (zexn 1) (zexn 1)] := by decide +kernel
theorem zxc1 : ((zat1 (zexn 1) (zix 1) (zrx 1)).filter vx_no).all vx_ot = true := by decide +kernel
theorem zxa2 : ((zat1 (zexn 2) (zix 2) (zrx 2)).filter vx_no).filter goodWord = (zxP 2).filterMap zlk := by decide +kernel
theorem zxb2 : ((zat1 (zexn 2) (zix 2) (zrx 2)).filter vx_no).filter (fun w => !goodWord w) = [.declares (Bundle.initS "java/lang/RuntimeException"), .declares (Bundle.initS "java/lang/Exception"), .declares (Bundle.initS "java/lang/Throwable"), .castable (zexn 2) (zexn 2)] := by decide +kernel
theorem zxc2 : ((zat1 (zexn 2) (zix 2) (zrx 2)).filter vx_no).all vx_ot = true := by decide +kernel
theorem zxa3 : ((zat1 (zexn 3) (zix 3) (zrx 3)).filter vx_no).filter goodWord = (zxP 3).filterMap zlk := by decide +kernel
theorem zxb3 : ((zat1 (zexn 3) (zix 3) (zrx 3)).filter vx_no).filter (fun w => !goodWord w) = [.declares (Bundle.initS "java/lang/RuntimeException"), .declares (Bundle.initS "java/lang/Exception"), .declares (Bundle.initS "java/lang/Throwable"), .castable (zexn 3) (zexn 3)] := by decide +kernel
theorem zxc3 : ((zat1 (zexn 3) (zix 3) (zrx 3)).filter vx_no).all vx_ot = true := by decide +kernel
theorem zxa4 : ((zat1 (zexn 4) (zix 4) (zrx 4)).filter vx_no).filter goodWord = (zxP 4).filterMap zlk := by decide +kernel
theorem zxb4 : ((zat1 (zexn 4) (zix 4) (zrx 4)).filter vx_no).filter (fun w => !goodWord w) = [.declares (Bundle.initS "java/lang/RuntimeException"), .declares (Bundle.initS "java/lang/Exception"), .declares (Bundle.initS "java/lang/Throwable"), .castable (zexn 4) (zexn 4)] := by decide +kernel
theorem zxc4 : ((zat1 (zexn 4) (zix 4) (zrx 4)).filter vx_no).all vx_ot = true := by decide +kernel
theorem zxa5 : ((zat1 (zexn 5) (zix 5) (zrx 5)).filter vx_no).filter goodWord = (zxP 5).filterMap zlk := by decide +kernel
theorem zxb5 : ((zat1 (zexn 5) (zix 5) (zrx 5)).filter vx_no).filter (fun w => !goodWord w) = [.declares (Bundle.initS "java/lang/RuntimeException"), .declares (Bundle.initS "java/lang/Exception"), .declares (Bundle.initS "java/lang/Throwable"), .castable (zexn 5) (zexn 5)] := by decide +kernel
theorem zxc5 : ((zat1 (zexn 5) (zix 5) (zrx 5)).filter vx_no).all vx_ot = true := by decide +kernel
theorem co6 {P : Nat → Prop} (h0 : P 0) (h1 : P 1) (h2 : P 2) (h3 : P 3) (h4 : P 4) (h5 : P 5) {i : Nat} (hi : i < 6) : P i := by
  rcases (show i = 0 ∨ i = 1 ∨ i = 2 ∨ i = 3 ∨ i = 4 ∨ i = 5 by omega) with rfl | rfl | rfl | rfl | rfl | rfl <;> assumption
theorem zxa_in {x : Nat} (hx : x < 6) : ∀ w ∈ ((zat1 (zexn x) (zix x) (zrx x)).filter vx_no).filter goodWord, w ∈ zU := by
  have key : ((zat1 (zexn x) (zix x) (zrx x)).filter vx_no).filter goodWord = (zxP x).filterMap zlk := co6 (P := fun x => ((zat1 (zexn x) (zix x) (zrx x)).filter vx_no).filter goodWord = (zxP x).filterMap zlk) zxa0 zxa1 zxa2 zxa3 zxa4 zxa5 hx
  intro w hw
  have hg := (List.mem_filter.mp hw).2
  rw [key] at hw
  obtain ⟨i, -, hi⟩ := List.mem_filterMap.mp hw
  exact List.mem_filter.mpr ⟨zlk_in hi, hg⟩
theorem zxb_in {x : Nat} (hx : x < 6) : ∀ w ∈ ((zat1 (zexn x) (zix x) (zrx x)).filter vx_no).filter (fun w => !goodWord w), w ∈ zXw := by
  have key : ((zat1 (zexn x) (zix x) (zrx x)).filter vx_no).filter (fun w => !goodWord w) = [.declares (Bundle.initS "java/lang/RuntimeException"), .declares (Bundle.initS "java/lang/Exception"), .declares (Bundle.initS "java/lang/Throwable"), .castable (zexn x) (zexn x)] := co6 (P := fun x => ((zat1 (zexn x) (zix x) (zrx x)).filter vx_no).filter (fun w => !goodWord w) = [.declares (Bundle.initS "java/lang/RuntimeException"), .declares (Bundle.initS "java/lang/Exception"), .declares (Bundle.initS "java/lang/Throwable"), .castable (zexn x) (zexn x)]) zxb0 zxb1 zxb2 zxb3 zxb4 zxb5 hx
  rw [key]
  exact co6 (P := fun x => ∀ w ∈ ([.declares (Bundle.initS "java/lang/RuntimeException"), .declares (Bundle.initS "java/lang/Exception"), .declares (Bundle.initS "java/lang/Throwable"), .castable (zexn x) (zexn x)] : List Cond), w ∈ zXw) (by decide +kernel) (by decide +kernel) (by decide +kernel) (by decide +kernel) (by decide +kernel) (by decide +kernel) hx
theorem zxc_ok {x : Nat} (hx : x < 6) : ∀ w ∈ (zat1 (zexn x) (zix x) (zrx x)).filter vx_no, vx_ot w = true := by
  have key : ((zat1 (zexn x) (zix x) (zrx x)).filter vx_no).all vx_ot = true := co6 (P := fun x => ((zat1 (zexn x) (zix x) (zrx x)).filter vx_no).all vx_ot = true) zxc0 zxc1 zxc2 zxc3 zxc4 zxc5 hx
  exact fun w hw => List.all_eq_true.mp key w hw
theorem zxf_ok {x : Nat} (hx : x < 6) : Bundle.fit (zexn x) = true := co6 (P := fun x => Bundle.fit (zexn x) = true) (by decide +kernel) (by decide +kernel) (by decide +kernel) (by decide +kernel) (by decide +kernel) (by decide +kernel) hx
theorem zxi_in {x : Nat} (hx : x < 6) : Cond.initialized (zexn x) ∈ zU := co6 (P := fun x => Cond.initialized (zexn x) ∈ zU) (zwd_in (i := 1008) (by decide +kernel)) (zwd_in (i := 1009) (by decide +kernel)) (zwd_in (i := 1010) (by decide +kernel)) (zwd_in (i := 1014) (by decide +kernel)) (zwd_in (i := 1021) (by decide +kernel)) (zwd_in (i := 1024) (by decide +kernel)) hx
/-- the length of the instruction that loads the text -/
def zlx (i : Nat) : Nat := bif (zthr i).2.2.2.2 then 3 else 2
noncomputable def zchkX (i : Nat) : Bool := Nat.blt (zthr i).1 6 && Nat.blt (zthm i).1 298 && zwd (zthw i).1 (.classLink (zown (zthm i).1) (zthr i).2.1 (zexn (zthr i).1)) && zwd (zthw i).2 (.methodLink (zown (zthm i).1) (zthr i).2.2.2.1 (Bundle.initS (zexn (zthr i).1))) &&
  decide (decode (zcode (zthm i).1) (zthm i).2 = .ok (.new (zthr i).2.1, 3)) && decide (decode (zcode (zthm i).1) ((zthm i).2 + 3) = .ok (.dup, 1)) && decide (decode (zcode (zthm i).1) ((zthm i).2 + 4) = .ok (bif (zthr i).2.2.2.2 then (.ldc_w (zthr i).2.2.1, 3) else (.ldc (zthr i).2.2.1, 2))) &&
  decide (decode (zcode (zthm i).1) ((zthm i).2 + 4 + zlx i) = .ok (.invokespecial (zthr i).2.2.2.1, 3)) && decide (decode (zcode (zthm i).1) ((zthm i).2 + 4 + zlx i + 3) = .ok (.athrow, 1))
theorem zchk_x0 : (List.range' 0 17).all zchkX = true := by decide +kernel
theorem zchk_x1 : (List.range' 17 17).all zchkX = true := by decide +kernel
theorem zchk_x (i : Nat) (hi : i < 34) : zchkX i = true := by
  by_cases h : i < 17
  · exact zall_in zchk_x0 (by omega) (by omega)
  · exact zall_in zchk_x1 (by omega) (by omega)
