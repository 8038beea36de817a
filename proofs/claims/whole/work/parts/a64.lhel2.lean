/-! The law's helpers. -/
section LHEL
variable {d x z o : Nat} {T : tfT} {I : Nat → Nat → Int32} {L : Nat → Nat → Int64} {R : zRt} {Q : zO → zM → Prop}
theorem h255_ok {v1 : Int} {a1 : Int32} (hd : 20 ≤ d) (h : tfx x z T (I, L, R)) (ho : oRo x z o 21 R) (e1 : a1 = iI v1) (h1 : i32 v1) (hQ : hP x z o (I, L, R) (oTypeP T v1) cI Q) : zS 255 d [zr (some x), zi a1, zr (some o)] (I, L, R) Q := by
  refine zW.gc [] rfl rfl rfl (by omega) trivial ⟨_, rfl, tfx_k0 h⟩ (by decide +kernel) (by decide +kernel) ?_
  refine typePlace_ok (by omega) h e1 h1 (tP_h b_oTypeP (fun M' w T' hr k f => ?_) (fun c M' w T' hc hr k f => ?_))
  · obtain ⟨I', L', R'⟩ := M'
    exact zW.gr [] rfl rfl rfl (by omega) (oRo_ar (oRo_K ho f)) trivial (hP_0 hQ ho hr k f rfl)
  · rcases (show c = 0 ∨ c = 1 ∨ c = 2 by omega) with rfl | rfl | rfl
    · exact zaft_x rfl (fun q => zW.gr [] rfl rfl rfl (by omega) trivial trivial (hP_t hQ hr k f (zcn_I _)))
    · exact zaft_x rfl (fun q => zW.gr [] rfl rfl rfl (by omega) trivial trivial (hP_t hQ hr k f (zcn_I _)))
    · exact zaft_x rfl (fun q => zW.gr [] rfl rfl rfl (by omega) trivial trivial (hP_t hQ hr k f (zcn_I _)))
theorem h256_ok {v1 : Int} {a1 : Int32} (hd : 20 ≤ d) (h : tfx x z T (I, L, R)) (ho : oRo x z o 21 R) (e1 : a1 = iI v1) (h1 : i32 v1) (hQ : hP x z o (I, L, R) (oPuz T v1) cI Q) : zS 256 d [zr (some x), zi a1, zr (some o)] (I, L, R) Q := by
  refine zW.gc [] rfl rfl rfl (by omega) trivial ⟨_, rfl, tfx_k0 h⟩ (by decide +kernel) (by decide +kernel) ?_
  refine puzzle_ok (by omega) h e1 h1 (tP_h b_oPuz (fun M' w T' hr k f => ?_) (fun c M' w T' hc hr k f => ?_))
  · obtain ⟨I', L', R'⟩ := M'
    exact zW.gr [] rfl rfl rfl (by omega) (oRo_ar (oRo_K ho f)) trivial (hP_0 hQ ho hr k f rfl)
  · rcases (show c = 0 ∨ c = 1 by omega) with rfl | rfl
    · exact zaft_x rfl (fun q => zW.gr [] rfl rfl rfl (by omega) trivial trivial (hP_t hQ hr k f (zcn_I _)))
    · exact zaft_x rfl (fun q => zW.gr [] rfl rfl rfl (by omega) trivial trivial (hP_t hQ hr k f (zcn_I _)))
theorem h257_ok {v1 v2 : Int} {a1 a2 : Int32} (hd : 20 ≤ d) (h : tfx x z T (I, L, R)) (ho : oRo x z o 21 R) (e1 : a1 = iI v1) (e2 : a2 = iI v2) (h1 : i32 v1) (h2 : i32 v2) (hQ : hP x z o (I, L, R) (oRing T v1 v2) cI Q) : zS 257 d [zr (some x), zi a1, zi a2, zr (some o)] (I, L, R) Q := by
  refine zW.gc [] rfl rfl rfl (by omega) trivial ⟨_, rfl, tfx_k0 h⟩ (by decide +kernel) (by decide +kernel) ?_
  refine ring_ok (by omega) h e1 e2 h1 h2 (tP_h b_oRing (fun M' w T' hr k f => ?_) (fun c M' w T' hc hr k f => ?_))
  · obtain ⟨I', L', R'⟩ := M'
    exact zW.gr [] rfl rfl rfl (by omega) (oRo_ar (oRo_K ho f)) trivial (hP_0 hQ ho hr k f rfl)
  · rcases (show c = 0 ∨ c = 1 ∨ c = 2 by omega) with rfl | rfl | rfl
    · exact zaft_x rfl (fun q => zW.gr [] rfl rfl rfl (by omega) trivial trivial (hP_t hQ hr k f (zcn_I _)))
    · exact zaft_x rfl (fun q => zW.gr [] rfl rfl rfl (by omega) trivial trivial (hP_t hQ hr k f (zcn_I _)))
    · exact zaft_x rfl (fun q => zW.gr [] rfl rfl rfl (by omega) trivial trivial (hP_t hQ hr k f (zcn_I _)))
theorem h258_ok {v1 v2 v3 : Int} {a1 a2 a3 : Int32} (hd : 20 ≤ d) (h : tfx x z T (I, L, R)) (ho : oRo x z o 21 R) (e1 : a1 = iI v1) (e2 : a2 = iI v2) (e3 : a3 = iI v3) (h1 : i32 v1) (h2 : i32 v2) (h3 : i32 v3) (hQ : hP x z o (I, L, R) (oColour T v1 v2 v3) cI Q) : zS 258 d [zr (some x), zi a1, zi a2, zi a3, zr (some o)] (I, L, R) Q := by
  refine zW.gc [] rfl rfl rfl (by omega) trivial ⟨_, rfl, tfx_k0 h⟩ (by decide +kernel) (by decide +kernel) ?_
  refine colour_ok (by omega) h e1 e2 e3 h1 h2 h3 (tP_h b_oColour (fun M' w T' hr k f => ?_) (fun c M' w T' hc hr k f => ?_))
  · obtain ⟨I', L', R'⟩ := M'
    exact zW.gr [] rfl rfl rfl (by omega) (oRo_ar (oRo_K ho f)) trivial (hP_0 hQ ho hr k f rfl)
  · rcases (show c = 0 ∨ c = 1 by omega) with rfl | rfl
    · exact zaft_x rfl (fun q => zW.gr [] rfl rfl rfl (by omega) trivial trivial (hP_t hQ hr k f (zcn_I _)))
    · exact zaft_x rfl (fun q => zW.gr [] rfl rfl rfl (by omega) trivial trivial (hP_t hQ hr k f (zcn_I _)))
theorem h259_ok {v1 v2 v3 : Int} {a1 a2 a3 : Int32} (hd : 20 ≤ d) (h : tfx x z T (I, L, R)) (ho : oRo x z o 21 R) (e1 : a1 = iI v1) (e2 : a2 = iI v2) (e3 : a3 = iI v3) (h1 : i32 v1) (h2 : 0 ≤ v2) (h2' : v2 < 65536) (h3 : i32 v3) (hQ : hP x z o (I, L, R) (oTurn T v1 v2 v3) cI Q) : zS 259 d [zr (some x), zi a1, zi a2, zi a3, zr (some o)] (I, L, R) Q := by
  refine zW.gc [] rfl rfl rfl (by omega) trivial ⟨_, rfl, tfx_k0 h⟩ (by decide +kernel) (by decide +kernel) ?_
  refine turnT_ok (by omega) h e1 e2 e3 h1 h2 h2' h3 (tP_h b_oTurn (fun M' w T' hr k f => ?_) (fun c M' w T' hc hr k f => ?_))
  · obtain ⟨I', L', R'⟩ := M'
    exact zW.gr [] rfl rfl rfl (by omega) (oRo_ar (oRo_K ho f)) trivial (hP_0 hQ ho hr k f rfl)
  · rcases (show c = 0 ∨ c = 1 by omega) with rfl | rfl
    · exact zaft_x rfl (fun q => zW.gr [] rfl rfl rfl (by omega) trivial trivial (hP_t hQ hr k f (zcn_I _)))
    · exact zaft_x rfl (fun q => zW.gr [] rfl rfl rfl (by omega) trivial trivial (hP_t hQ hr k f (zcn_I _)))
theorem h260_ok {v1 v2 : Int} {a1 a2 : Int32} (hd : 20 ≤ d) (h : tfx x z T (I, L, R)) (ho : oRo x z o 21 R) (e1 : a1 = iI v1) (e2 : a2 = iI v2) (h1 : i32 v1) (h2 : i32 v2) (hQ : hP x z o (I, L, R) (oPiece T v1 v2) cI Q) : zS 260 d [zr (some x), zi a1, zi a2, zr (some o)] (I, L, R) Q := by
  refine zW.gc [] rfl rfl rfl (by omega) trivial ⟨_, rfl, tfx_k0 h⟩ (by decide +kernel) (by decide +kernel) ?_
  refine pieceAt_ok (by omega) h e1 e2 h1 h2 (tP_h b_oPiece (fun M' w T' hr k f => ?_) (fun c M' w T' hc hr k f => ?_))
  · obtain ⟨I', L', R'⟩ := M'
    exact zW.gr [] rfl rfl rfl (by omega) (oRo_ar (oRo_K ho f)) trivial (hP_0 hQ ho hr k f rfl)
  · obtain rfl : c = 0 := by omega
    · exact zaft_x rfl (fun q => zW.gr [] rfl rfl rfl (by omega) trivial trivial (hP_t hQ hr k f (zcn_I _)))
theorem h261_ok {v1 v2 v3 : Int} {a1 a2 a3 : Int32} (hd : 20 ≤ d) (h : tfx x z T (I, L, R)) (ho : oRo x z o 21 R) (e1 : a1 = iI v1) (e2 : a2 = iI v2) (e3 : a3 = iI v3) (h1 : i32 v1) (h2 : i32 v2) (h3 : i32 v3) (hQ : hP x z o (I, L, R) (oSwap T v1 v2 v3) cI Q) : zS 261 d [zr (some x), zi a1, zi a2, zi a3, zr (some o)] (I, L, R) Q := by
  refine zW.gc [] rfl rfl rfl (by omega) trivial ⟨_, rfl, tfx_k0 h⟩ (by decide +kernel) (by decide +kernel) ?_
  refine swapT_ok (by omega) h e1 e2 e3 h1 h2 h3 (tP_h b_oSwap (fun M' w T' hr k f => ?_) (fun c M' w T' hc hr k f => ?_))
  · obtain ⟨I', L', R'⟩ := M'
    exact zW.gr [] rfl rfl rfl (by omega) (oRo_ar (oRo_K ho f)) trivial (hP_0 hQ ho hr k f rfl)
  · rcases (show c = 0 ∨ c = 1 by omega) with rfl | rfl
    · exact zaft_x rfl (fun q => zW.gr [] rfl rfl rfl (by omega) trivial trivial (hP_t hQ hr k f (zcn_I _)))
    · exact zaft_x rfl (fun q => zW.gr [] rfl rfl rfl (by omega) trivial trivial (hP_t hQ hr k f (zcn_I _)))
theorem h262_ok {v1 : Int} {a1 : Int32} (hd : 20 ≤ d) (h : tfx x z T (I, L, R)) (ho : oRo x z o 21 R) (e1 : a1 = iI v1) (h1 : i32 v1) (hQ : hP x z o (I, L, R) (oReset T v1) cI Q) : zS 262 d [zr (some x), zi a1, zr (some o)] (I, L, R) Q := by
  refine zW.gc [] rfl rfl rfl (by omega) trivial ⟨_, rfl, tfx_k0 h⟩ (by decide +kernel) (by decide +kernel) ?_
  refine reset_ok (by omega) h e1 h1 (tP_h b_oReset (fun M' w T' hr k f => ?_) (fun c M' w T' hc hr k f => ?_))
  · obtain ⟨I', L', R'⟩ := M'
    exact zW.gr [] rfl rfl rfl (by omega) (oRo_ar (oRo_K ho f)) trivial (hP_0 hQ ho hr k f rfl)
  · obtain rfl : c = 0 := by omega
    · exact zaft_x rfl (fun q => zW.gr [] rfl rfl rfl (by omega) trivial trivial (hP_t hQ hr k f (zcn_I _)))
theorem h263_ok {v1 : Int} {a1 : Int32} (hd : 20 ≤ d) (h : tfx x z T (I, L, R)) (ho : oRo x z o 21 R) (e1 : a1 = iI v1) (h1 : i32 v1) (hQ : hP x z o (I, L, R) (oSolved T v1) cB Q) : zS 263 d [zr (some x), zi a1, zr (some o)] (I, L, R) Q := by
  refine zW.gc [] rfl rfl rfl (by omega) trivial ⟨_, rfl, tfx_k0 h⟩ (by decide +kernel) (by decide +kernel) ?_
  refine isSolved_ok (by omega) h e1 h1 (tP_h b_oSolved (fun M' w T' hr k f => ?_) (fun c M' w T' hc hr k f => ?_))
  · obtain ⟨I', L', R'⟩ := M'
    refine zW.gb [] rfl rfl rfl (by omega) trivial (fun g => ?_) (fun g => ?_)
    · exact zW.gr [] rfl rfl rfl (by omega) (oRo_ar (oRo_K ho f)) trivial (hP_0 hQ ho hr k f (if_pos g).symm)
    · exact zW.gr [] rfl rfl rfl (by omega) (oRo_ar (oRo_K ho f)) trivial (hP_0 hQ ho hr k f (if_neg g).symm)
  · obtain rfl : c = 0 := by omega
    · exact zaft_x rfl (fun q => zW.gr [] rfl rfl rfl (by omega) trivial trivial (hP_t hQ hr k f (zcn_I _)))
theorem h264_ok {v1 : Int} {a1 : Int32} (hd : 20 ≤ d) (h : tfx x z T (I, L, R)) (ho : oRo x z o 21 R) (e1 : a1 = iI v1) (h1 : i32 v1) (hQ : hP x z o (I, L, R) (oOrder T v1) cL Q) : zS 264 d [zr (some x), zi a1, zr (some o)] (I, L, R) Q := by
  refine zW.gc [] rfl rfl rfl (by omega) trivial ⟨_, rfl, tfx_k0 h⟩ (by decide +kernel) (by decide +kernel) ?_
  refine order_ok (by omega) h e1 h1 (tP_h b_oOrder (fun M' w T' hr k f => ?_) (fun c M' w T' hc hr k f => ?_))
  · obtain ⟨I', L', R'⟩ := M'
    exact zW.gr [] rfl rfl rfl (by omega) (oRo_ar (oRo_K ho f)) trivial (hP_0 hQ ho hr k f rfl)
  · obtain rfl : c = 0 := by omega
    · exact zaft_x rfl (fun q => zW.gr [] rfl rfl rfl (by omega) trivial trivial (hP_t hQ hr k f (zcn_I _)))
theorem h265_ok {v1 : Int} {a1 : Int32} (hd : 20 ≤ d) (h : tfx x z T (I, L, R)) (ho : oRo x z o 21 R) (e1 : a1 = iI v1) (h1 : i32 v1) (hQ : hP x z o (I, L, R) (oIsIn T v1) cB Q) : zS 265 d [zr (some x), zi a1, zr (some o)] (I, L, R) Q := by
  refine zW.gc [] rfl rfl rfl (by omega) trivial ⟨_, rfl, tfx_k0 h⟩ (by decide +kernel) (by decide +kernel) ?_
  refine isIn_ok (by omega) h e1 h1 (tP_h b_oIsIn (fun M' w T' hr k f => ?_) (fun c M' w T' hc hr k f => ?_))
  · obtain ⟨I', L', R'⟩ := M'
    refine zW.gb [] rfl rfl rfl (by omega) trivial (fun g => ?_) (fun g => ?_)
    · exact zW.gr [] rfl rfl rfl (by omega) (oRo_ar (oRo_K ho f)) trivial (hP_0 hQ ho hr k f (if_pos g).symm)
    · exact zW.gr [] rfl rfl rfl (by omega) (oRo_ar (oRo_K ho f)) trivial (hP_0 hQ ho hr k f (if_neg g).symm)
  · obtain rfl : c = 0 := by omega
    · exact zaft_x rfl (fun q => zW.gr [] rfl rfl rfl (by omega) trivial trivial (hP_t hQ hr k f (zcn_I _)))
theorem h266_ok {v1 : Int} {a1 : Int32} (hd : 20 ≤ d) (h : tfx x z T (I, L, R)) (ho : oRo x z o 21 R) (e1 : a1 = iI v1) (h1 : i32 v1) (hQ : hP x z o (I, L, R) (oCentre T v1) cI Q) : zS 266 d [zr (some x), zi a1, zr (some o)] (I, L, R) Q := by
  refine zW.gc [] rfl rfl rfl (by omega) trivial ⟨_, rfl, tfx_k0 h⟩ (by decide +kernel) (by decide +kernel) ?_
  refine centreT_ok (by omega) h e1 h1 (tP_h b_oCentre (fun M' w T' hr k f => ?_) (fun c M' w T' hc hr k f => ?_))
  · obtain ⟨I', L', R'⟩ := M'
    exact zW.gr [] rfl rfl rfl (by omega) (oRo_ar (oRo_K ho f)) trivial (hP_0 hQ ho hr k f rfl)
  · rcases (show c = 0 ∨ c = 1 by omega) with rfl | rfl
    · exact zaft_x rfl (fun q => zW.gr [] rfl rfl rfl (by omega) trivial trivial (hP_t hQ hr k f (zcn_I _)))
    · exact zaft_x rfl (fun q => zW.gr [] rfl rfl rfl (by omega) trivial trivial (hP_t hQ hr k f (zcn_I _)))
theorem h267_ok {v1 : Int} {a1 : Int32} (hd : 20 ≤ d) (h : tfx x z T (I, L, R)) (ho : oRo x z o 21 R) (e1 : a1 = iI v1) (h1 : i32 v1) (hQ : hP x z o (I, L, R) (oKinds T v1) cI Q) : zS 267 d [zr (some x), zi a1, zr (some o)] (I, L, R) Q := by
  refine zW.gc [] rfl rfl rfl (by omega) trivial ⟨_, rfl, tfx_k0 h⟩ (by decide +kernel) (by decide +kernel) ?_
  refine kindsT_ok (by omega) h e1 h1 (tP_h b_oKinds (fun M' w T' hr k f => ?_) (fun c M' w T' hc hr k f => ?_))
  · obtain ⟨I', L', R'⟩ := M'
    exact zW.gr [] rfl rfl rfl (by omega) (oRo_ar (oRo_K ho f)) trivial (hP_0 hQ ho hr k f rfl)
  · rcases (show c = 0 ∨ c = 1 by omega) with rfl | rfl
    · exact zaft_x rfl (fun q => zW.gr [] rfl rfl rfl (by omega) trivial trivial (hP_t hQ hr k f (zcn_I _)))
    · exact zaft_x rfl (fun q => zW.gr [] rfl rfl rfl (by omega) trivial trivial (hP_t hQ hr k f (zcn_I _)))
theorem h268_ok {v1 : Int} {a1 : Int32} (hd : 20 ≤ d) (h : tfx x z T (I, L, R)) (ho : oRo x z o 21 R) (e1 : a1 = iI v1) (h1 : i32 v1) (hQ : hP x z o (I, L, R) (oOdd T v1) cB Q) : zS 268 d [zr (some x), zi a1, zr (some o)] (I, L, R) Q := by
  refine zW.gc [] rfl rfl rfl (by omega) trivial ⟨_, rfl, tfx_k0 h⟩ (by decide +kernel) (by decide +kernel) ?_
  refine isOdd_ok (by omega) h e1 h1 (tP_h b_oOdd (fun M' w T' hr k f => ?_) (fun c M' w T' hc hr k f => ?_))
  · obtain ⟨I', L', R'⟩ := M'
    refine zW.gb [] rfl rfl rfl (by omega) trivial (fun g => ?_) (fun g => ?_)
    · exact zW.gr [] rfl rfl rfl (by omega) (oRo_ar (oRo_K ho f)) trivial (hP_0 hQ ho hr k f (if_pos g).symm)
    · exact zW.gr [] rfl rfl rfl (by omega) (oRo_ar (oRo_K ho f)) trivial (hP_0 hQ ho hr k f (if_neg g).symm)
  · obtain rfl : c = 0 := by omega
    · exact zaft_x rfl (fun q => zW.gr [] rfl rfl rfl (by omega) trivial trivial (hP_t hQ hr k f (zcn_I _)))
theorem h269_ok {v1 : Int} {a1 : Int32} (hd : 20 ≤ d) (h : tfx x z T (I, L, R)) (ho : oRo x z o 21 R) (e1 : a1 = iI v1) (h1 : i32 v1) (hQ : hP x z o (I, L, R) (oOrbs T v1) cI Q) : zS 269 d [zr (some x), zi a1, zr (some o)] (I, L, R) Q := by
  refine zW.gc [] rfl rfl rfl (by omega) trivial ⟨_, rfl, tfx_k0 h⟩ (by decide +kernel) (by decide +kernel) ?_
  refine orbits_ok (by omega) h e1 h1 (tP_h b_oOrbs (fun M' w T' hr k f => ?_) (fun c M' w T' hc hr k f => ?_))
  · obtain ⟨I', L', R'⟩ := M'
    exact zW.gr [] rfl rfl rfl (by omega) (oRo_ar (oRo_K ho f)) trivial (hP_0 hQ ho hr k f rfl)
  · obtain rfl : c = 0 := by omega
    · exact zaft_x rfl (fun q => zW.gr [] rfl rfl rfl (by omega) trivial trivial (hP_t hQ hr k f (zcn_I _)))
theorem h270_ok {v1 : Int} {a1 : Int32} (hd : 20 ≤ d) (h : tfx x z T (I, L, R)) (ho : oRo x z o 21 R) (e1 : a1 = iI v1) (h1 : i32 v1) (hQ : hP x z o (I, L, R) (oPer T v1) cI Q) : zS 270 d [zr (some x), zi a1, zr (some o)] (I, L, R) Q := by
  refine zW.gc [] rfl rfl rfl (by omega) trivial ⟨_, rfl, tfx_k0 h⟩ (by decide +kernel) (by decide +kernel) ?_
  refine period_ok (by omega) h e1 h1 (tP_h b_oPer (fun M' w T' hr k f => ?_) (fun c M' w T' hc hr k f => ?_))
  · obtain ⟨I', L', R'⟩ := M'
    exact zW.gr [] rfl rfl rfl (by omega) (oRo_ar (oRo_K ho f)) trivial (hP_0 hQ ho hr k f rfl)
  · obtain rfl : c = 0 := by omega
    · exact zaft_x rfl (fun q => zW.gr [] rfl rfl rfl (by omega) trivial trivial (hP_t hQ hr k f (zcn_I _)))
theorem h271_ok {v1 : Int} {a1 : Int32} (hd : 20 ≤ d) (h : tfx x z T (I, L, R)) (ho : oRo x z o 21 R) (e1 : a1 = iI v1) (h1 : i32 v1) (hQ : hP x z o (I, L, R) (oNumb T v1) cL Q) : zS 271 d [zr (some x), zi a1, zr (some o)] (I, L, R) Q := by
  refine zW.gc [] rfl rfl rfl (by omega) trivial ⟨_, rfl, tfx_k0 h⟩ (by decide +kernel) (by decide +kernel) ?_
  refine numberOf_ok (by omega) h e1 h1 (tP_h b_oNumb (fun M' w T' hr k f => ?_) (fun c M' w T' hc hr k f => ?_))
  · obtain ⟨I', L', R'⟩ := M'
    exact zW.gr [] rfl rfl rfl (by omega) (oRo_ar (oRo_K ho f)) trivial (hP_0 hQ ho hr k f rfl)
  · rcases (show c = 0 ∨ c = 1 by omega) with rfl | rfl
    · exact zaft_x rfl (fun q => zW.gr [] rfl rfl rfl (by omega) trivial trivial (hP_t hQ hr k f (zcn_I _)))
    · exact zaft_x rfl (fun q => zW.gr [] rfl rfl rfl (by omega) trivial trivial (hP_t hQ hr k f (zcn_I _)))
theorem h272_ok {v1 v2 : Int} {a1 : Int32} {a2 : Int64} (hd : 20 ≤ d) (h : tfx x z T (I, L, R)) (ho : oRo x z o 21 R) (e1 : a1 = iI v1) (e2 : a2 = iL v2) (h1 : i32 v1) (h2 : -9223372036854775808 ≤ v2) (h2' : v2 < 9223372036854775808) (hQ : hP x z o (I, L, R) (oToNum T v1 v2) cI Q) : zS 272 d [zr (some x), zi a1, zl a2, zr (some o)] (I, L, R) Q := by
  refine zW.gc [] rfl rfl rfl (by omega) trivial ⟨_, rfl, tfx_k0 h⟩ (by decide +kernel) (by decide +kernel) ?_
  refine toNumber_ok (by omega) h e1 h1 e2 h2 h2' (tP_h b_oToNum (fun M' w T' hr k f => ?_) (fun c M' w T' hc hr k f => ?_))
  · obtain ⟨I', L', R'⟩ := M'
    exact zW.gr [] rfl rfl rfl (by omega) (oRo_ar (oRo_K ho f)) trivial (hP_0 hQ ho hr k f rfl)
  · rcases (show c = 0 ∨ c = 1 by omega) with rfl | rfl
    · exact zaft_x rfl (fun q => zW.gr [] rfl rfl rfl (by omega) trivial trivial (hP_t hQ hr k f (zcn_I _)))
    · exact zaft_x rfl (fun q => zW.gr [] rfl rfl rfl (by omega) trivial trivial (hP_t hQ hr k f (zcn_I _)))
theorem h273_ok {v1 v2 : Int} {a1 a2 : Int32} (hd : 20 ≤ d) (h : tfx x z T (I, L, R)) (ho : oRo x z o 21 R) (e1 : a1 = iI v1) (e2 : a2 = iI v2) (h1 : i32 v1) (h2 : i32 v2) (hQ : hP x z o (I, L, R) (oScr T v1 v2) cL Q) : zS 273 d [zr (some x), zi a1, zi a2, zr (some o)] (I, L, R) Q := by
  refine zW.gc [] rfl rfl rfl (by omega) trivial ⟨_, rfl, tfx_k0 h⟩ (by decide +kernel) (by decide +kernel) ?_
  refine scramble_ok (by omega) h e1 e2 h1 h2 (tP_h b_oScr (fun M' w T' hr k f => ?_) (fun c M' w T' hc hr k f => ?_))
  · obtain ⟨I', L', R'⟩ := M'
    exact zW.gr [] rfl rfl rfl (by omega) (oRo_ar (oRo_K ho f)) trivial (hP_0 hQ ho hr k f rfl)
  · rcases (show c = 0 ∨ c = 1 by omega) with rfl | rfl
    · exact zaft_x rfl (fun q => zW.gr [] rfl rfl rfl (by omega) trivial trivial (hP_t hQ hr k f (zcn_I _)))
    · exact zaft_x rfl (fun q => zW.gr [] rfl rfl rfl (by omega) trivial trivial (hP_t hQ hr k f (zcn_I _)))
theorem h274_ok {v1 v2 : Int} {a1 a2 : Int32} (hd : 20 ≤ d) (h : tfx x z T (I, L, R)) (ho : oRo x z o 21 R) (e1 : a1 = iI v1) (e2 : a2 = iI v2) (h1 : i32 v1) (h2 : 0 ≤ v2) (h2' : v2 < 65536) (hQ : hP x z o (I, L, R) (oDist T v1 v2) cI Q) : zS 274 d [zr (some x), zi a1, zi a2, zr (some o)] (I, L, R) Q := by
  refine zW.gc [] rfl rfl rfl (by omega) trivial ⟨_, rfl, tfx_k0 h⟩ (by decide +kernel) (by decide +kernel) ?_
  refine distance_ok (by omega) h e1 e2 h1 (i32_16 h2 h2') (tP_h b_oDist (fun M' w T' hr k f => ?_) (fun c M' w T' hc hr k f => ?_))
  · obtain ⟨I', L', R'⟩ := M'
    exact zW.gr [] rfl rfl rfl (by omega) (oRo_ar (oRo_K ho f)) trivial (hP_0 hQ ho hr k f rfl)
  · rcases (show c = 0 ∨ c = 1 ∨ c = 2 ∨ c = 3 by omega) with rfl | rfl | rfl | rfl
    · exact zaft_x rfl (fun q => zW.gr [] rfl rfl rfl (by omega) trivial trivial (hP_t hQ hr k f (zcn_I _)))
    · exact zaft_x rfl (fun q => zW.gr [] rfl rfl rfl (by omega) trivial trivial (hP_t hQ hr k f (zcn_I _)))
    · exact zaft_x rfl (fun q => zW.gr [] rfl rfl rfl (by omega) trivial trivial (hP_t hQ hr k f (zcn_I _)))
    · exact zaft_x rfl (fun q => zW.gr [] rfl rfl rfl (by omega) trivial trivial (hP_t hQ hr k f (zcn_I _)))
theorem h275_ok {v1 v2 : Int} {a1 a2 : Int32} (hd : 20 ≤ d) (h : tfx x z T (I, L, R)) (ho : oRo x z o 21 R) (e1 : a1 = iI v1) (e2 : a2 = iI v2) (h1 : i32 v1) (h2 : 0 ≤ v2) (h2' : v2 < 65536) (hQ : hP x z o (I, L, R) (oGod T v1 v2) cI Q) : zS 275 d [zr (some x), zi a1, zi a2, zr (some o)] (I, L, R) Q := by
  refine zW.gc [] rfl rfl rfl (by omega) trivial ⟨_, rfl, tfx_k0 h⟩ (by decide +kernel) (by decide +kernel) ?_
  refine god_ok (by omega) h e1 e2 h1 (i32_16 h2 h2') (tP_h b_oGod (fun M' w T' hr k f => ?_) (fun c M' w T' hc hr k f => ?_))
  · obtain ⟨I', L', R'⟩ := M'
    exact zW.gr [] rfl rfl rfl (by omega) (oRo_ar (oRo_K ho f)) trivial (hP_0 hQ ho hr k f rfl)
  · rcases (show c = 0 ∨ c = 1 ∨ c = 2 by omega) with rfl | rfl | rfl
    · exact zaft_x rfl (fun q => zW.gr [] rfl rfl rfl (by omega) trivial trivial (hP_t hQ hr k f (zcn_I _)))
    · exact zaft_x rfl (fun q => zW.gr [] rfl rfl rfl (by omega) trivial trivial (hP_t hQ hr k f (zcn_I _)))
    · exact zaft_x rfl (fun q => zW.gr [] rfl rfl rfl (by omega) trivial trivial (hP_t hQ hr k f (zcn_I _)))
theorem h276_ok {v1 v2 v3 : Int} {a1 a2 a3 : Int32} (hd : 20 ≤ d) (h : tfx x z T (I, L, R)) (ho : oRo x z o 21 R) (e1 : a1 = iI v1) (e2 : a2 = iI v2) (e3 : a3 = iI v3) (h1 : i32 v1) (h2 : 0 ≤ v2) (h2' : v2 < 65536) (h3 : i32 v3) (hQ : hP x z o (I, L, R) (oMany T v1 v2 v3) cI Q) : zS 276 d [zr (some x), zi a1, zi a2, zi a3, zr (some o)] (I, L, R) Q := by
  refine zW.gc [] rfl rfl rfl (by omega) trivial ⟨_, rfl, tfx_k0 h⟩ (by decide +kernel) (by decide +kernel) ?_
  refine many_ok (by omega) h e1 e2 e3 h1 (i32_16 h2 h2') h3 (tP_h b_oMany (fun M' w T' hr k f => ?_) (fun c M' w T' hc hr k f => ?_))
  · obtain ⟨I', L', R'⟩ := M'
    exact zW.gr [] rfl rfl rfl (by omega) (oRo_ar (oRo_K ho f)) trivial (hP_0 hQ ho hr k f rfl)
  · rcases (show c = 0 ∨ c = 1 ∨ c = 2 by omega) with rfl | rfl | rfl
    · exact zaft_x rfl (fun q => zW.gr [] rfl rfl rfl (by omega) trivial trivial (hP_t hQ hr k f (zcn_I _)))
    · exact zaft_x rfl (fun q => zW.gr [] rfl rfl rfl (by omega) trivial trivial (hP_t hQ hr k f (zcn_I _)))
    · exact zaft_x rfl (fun q => zW.gr [] rfl rfl rfl (by omega) trivial trivial (hP_t hQ hr k f (zcn_I _)))
theorem h277_ok {v1 v2 : Int} {a1 a2 : Int32} (hd : 20 ≤ d) (h : tfx x z T (I, L, R)) (ho : oRo x z o 21 R) (e1 : a1 = iI v1) (e2 : a2 = iI v2) (h1 : i32 v1) (h2 : i32 v2) (hQ : hP x z o (I, L, R) (oSearch T v1 v2) cI Q) : zS 277 d [zr (some x), zi a1, zi a2, zr (some o)] (I, L, R) Q := by
  refine zW.gc [] rfl rfl rfl (by omega) trivial ⟨_, rfl, tfx_k0 h⟩ (by decide +kernel) (by decide +kernel) ?_
  refine search_ok (by omega) h e1 e2 h1 h2 (tP_h b_oSearch (fun M' w T' hr k f => ?_) (fun c M' w T' hc hr k f => ?_))
  · obtain ⟨I', L', R'⟩ := M'
    exact zW.gr [] rfl rfl rfl (by omega) (oRo_ar (oRo_K ho f)) trivial (hP_0 hQ ho hr k f rfl)
  · rcases (show c = 0 ∨ c = 1 by omega) with rfl | rfl
    · exact zaft_x rfl (fun q => zW.gr [] rfl rfl rfl (by omega) trivial trivial (hP_t hQ hr k f (zcn_I _)))
    · exact zaft_x rfl (fun q => zW.gr [] rfl rfl rfl (by omega) trivial trivial (hP_t hQ hr k f (zcn_I _)))
theorem h278_ok {v1 v2 v3 : Int} {a1 a2 a3 : Int32} (hd : 20 ≤ d) (h : tfx x z T (I, L, R)) (ho : oRo x z o 21 R) (e1 : a1 = iI v1) (e2 : a2 = iI v2) (e3 : a3 = iI v3) (h1 : i32 v1) (h2 : i32 v2) (h3 : i32 v3) (hQ : hP x z o (I, L, R) (oSeaAt T v1 v2 v3) cI Q) : zS 278 d [zr (some x), zi a1, zi a2, zi a3, zr (some o)] (I, L, R) Q := by
  refine zW.gc [] rfl rfl rfl (by omega) trivial ⟨_, rfl, tfx_k0 h⟩ (by decide +kernel) (by decide +kernel) ?_
  refine searchAt_ok (by omega) h e1 e2 e3 h1 h2 h3 (tP_h b_oSeaAt (fun M' w T' hr k f => ?_) (fun c M' w T' hc hr k f => ?_))
  · obtain ⟨I', L', R'⟩ := M'
    exact zW.gr [] rfl rfl rfl (by omega) (oRo_ar (oRo_K ho f)) trivial (hP_0 hQ ho hr k f rfl)
  · rcases (show c = 0 ∨ c = 1 ∨ c = 2 by omega) with rfl | rfl | rfl
    · exact zaft_x rfl (fun q => zW.gr [] rfl rfl rfl (by omega) trivial trivial (hP_t hQ hr k f (zcn_I _)))
    · exact zaft_x rfl (fun q => zW.gr [] rfl rfl rfl (by omega) trivial trivial (hP_t hQ hr k f (zcn_I _)))
    · exact zaft_x rfl (fun q => zW.gr [] rfl rfl rfl (by omega) trivial trivial (hP_t hQ hr k f (zcn_I _)))
theorem h279_ok {v1 : Int} {a1 : Int32} (hd : 20 ≤ d) (h : tfx x z T (I, L, R)) (ho : oRo x z o 21 R) (e1 : a1 = iI v1) (h1 : 0 ≤ v1) (h1' : v1 < 65536) (hQ : hP x z o (I, L, R) (oType T v1) cI Q) : zS 279 d [zr (some x), zi a1, zr (some o)] (I, L, R) Q := by
  refine zW.gc [] rfl rfl rfl (by omega) trivial ⟨_, rfl, tfx_k0 h⟩ (by decide +kernel) (by decide +kernel) ?_
  refine typeT_ok (by omega) h e1 h1 h1' (tP_h b_oType (fun M' w T' hr k f => ?_) (fun c M' w T' hc hr k f => ?_))
  · obtain ⟨I', L', R'⟩ := M'
    exact zW.gr [] rfl rfl rfl (by omega) (oRo_ar (oRo_K ho f)) trivial (hP_0 hQ ho hr k f rfl)
  · rcases (show c = 0 ∨ c = 1 by omega) with rfl | rfl
    · exact zaft_x rfl (fun q => zW.gr [] rfl rfl rfl (by omega) trivial trivial (hP_t hQ hr k f (zcn_I _)))
    · exact zaft_x rfl (fun q => zW.gr [] rfl rfl rfl (by omega) trivial trivial (hP_t hQ hr k f (zcn_I _)))
theorem h280_ok {v1 : Int} {a1 : Int32} (hd : 20 ≤ d) (h : tfx x z T (I, L, R)) (ho : oRo x z o 21 R) (e1 : a1 = iI v1) (h1 : 0 ≤ v1) (h1' : v1 < 65536) (hQ : hP x z o (I, L, R) (oLength T v1) cI Q) : zS 280 d [zr (some x), zi a1, zr (some o)] (I, L, R) Q := by
  refine zW.gc [] rfl rfl rfl (by omega) trivial ⟨_, rfl, tfx_k0 h⟩ (by decide +kernel) (by decide +kernel) ?_
  refine length_ok (by omega) h e1 (i32_16 h1 h1') (tP_h b_oLength (fun M' w T' hr k f => ?_) (fun c M' w T' hc hr k f => ?_))
  · obtain ⟨I', L', R'⟩ := M'
    exact zW.gr [] rfl rfl rfl (by omega) (oRo_ar (oRo_K ho f)) trivial (hP_0 hQ ho hr k f rfl)
  · rcases (show c = 0 ∨ c = 1 by omega) with rfl | rfl
    · exact zaft_x rfl (fun q => zW.gr [] rfl rfl rfl (by omega) trivial trivial (hP_t hQ hr k f (zcn_I _)))
    · exact zaft_x rfl (fun q => zW.gr [] rfl rfl rfl (by omega) trivial trivial (hP_t hQ hr k f (zcn_I _)))
theorem h281_ok {v1 : Int} {a1 : Int32} (hd : 20 ≤ d) (h : tfx x z T (I, L, R)) (ho : oRo x z o 21 R) (e1 : a1 = iI v1) (h1 : i32 v1) (hQ : hP x z o (I, L, R) (oTurnAt T v1) cI Q) : zS 281 d [zr (some x), zi a1, zr (some o)] (I, L, R) Q := by
  refine zW.gc [] rfl rfl rfl (by omega) trivial ⟨_, rfl, tfx_k0 h⟩ (by decide +kernel) (by decide +kernel) ?_
  refine turnAt_ok (by omega) h e1 h1 (tP_h b_oTurnAt (fun M' w T' hr k f => ?_) (fun c M' w T' hc hr k f => ?_))
  · obtain ⟨I', L', R'⟩ := M'
    exact zW.gr [] rfl rfl rfl (by omega) (oRo_ar (oRo_K ho f)) trivial (hP_0 hQ ho hr k f rfl)
  · rcases (show c = 0 ∨ c = 1 by omega) with rfl | rfl
    · exact zaft_x rfl (fun q => zW.gr [] rfl rfl rfl (by omega) trivial trivial (hP_t hQ hr k f (zcn_I _)))
    · exact zaft_x rfl (fun q => zW.gr [] rfl rfl rfl (by omega) trivial trivial (hP_t hQ hr k f (zcn_I _)))
theorem h282_ok {v1 : Int} {a1 : Int32} (hd : 20 ≤ d) (h : tfx x z T (I, L, R)) (ho : oRo x z o 21 R) (e1 : a1 = iI v1) (h1 : i32 v1) (hQ : hP x z o (I, L, R) (oApply T v1) cB Q) : zS 282 d [zr (some x), zi a1, zr (some o)] (I, L, R) Q := by
  refine zW.gc [] rfl rfl rfl (by omega) trivial ⟨_, rfl, tfx_k0 h⟩ (by decide +kernel) (by decide +kernel) ?_
  refine apply_ok (by omega) h e1 h1 (tP_h b_oApply (fun M' w T' hr k f => ?_) (fun c M' w T' hc hr k f => ?_))
  · obtain ⟨I', L', R'⟩ := M'
    refine zW.gb [] rfl rfl rfl (by omega) trivial (fun g => ?_) (fun g => ?_)
    · exact zW.gr [] rfl rfl rfl (by omega) (oRo_ar (oRo_K ho f)) trivial (hP_0 hQ ho hr k f (if_pos g).symm)
    · exact zW.gr [] rfl rfl rfl (by omega) (oRo_ar (oRo_K ho f)) trivial (hP_0 hQ ho hr k f (if_neg g).symm)
  · rcases (show c = 0 ∨ c = 1 by omega) with rfl | rfl
    · exact zaft_x rfl (fun q => zW.gr [] rfl rfl rfl (by omega) trivial trivial (hP_t hQ hr k f (zcn_I _)))
    · exact zaft_x rfl (fun q => zW.gr [] rfl rfl rfl (by omega) trivial trivial (hP_t hQ hr k f (zcn_I _)))
theorem h283_ok {v1 : Int} {a1 : Int32} (hd : 20 ≤ d) (h : tfx x z T (I, L, R)) (ho : oRo x z o 21 R) (e1 : a1 = iI v1) (h1 : i32 v1) (hQ : hP x z o (I, L, R) (oComp T v1) cI Q) : zS 283 d [zr (some x), zi a1, zr (some o)] (I, L, R) Q := by
  refine zW.gc [] rfl rfl rfl (by omega) trivial ⟨_, rfl, tfx_k0 h⟩ (by decide +kernel) (by decide +kernel) ?_
  refine competitor_ok (by omega) h e1 h1 (tP_h b_oComp (fun M' w T' hr k f => ?_) (fun c M' w T' hc hr k f => ?_))
  · obtain ⟨I', L', R'⟩ := M'
    exact zW.gr [] rfl rfl rfl (by omega) (oRo_ar (oRo_K ho f)) trivial (hP_0 hQ ho hr k f rfl)
  · rcases (show c = 0 ∨ c = 1 by omega) with rfl | rfl
    · exact zaft_x rfl (fun q => zW.gr [] rfl rfl rfl (by omega) trivial trivial (hP_t hQ hr k f (zcn_I _)))
    · exact zaft_x rfl (fun q => zW.gr [] rfl rfl rfl (by omega) trivial trivial (hP_t hQ hr k f (zcn_I _)))
theorem h284_ok {v1 v2 v3 : Int} {a1 a2 a3 : Int32} (hd : 20 ≤ d) (h : tfx x z T (I, L, R)) (ho : oRo x z o 21 R) (e1 : a1 = iI v1) (e2 : a2 = iI v2) (e3 : a3 = iI v3) (h1 : 0 ≤ v1) (h1' : v1 < 65536) (h2 : i32 v2) (h3 : i32 v3) (hQ : hP x z o (I, L, R) (oRnd T v1 v2 v3) cI Q) : zS 284 d [zr (some x), zi a1, zi a2, zi a3, zr (some o)] (I, L, R) Q := by
  refine zW.gc [] rfl rfl rfl (by omega) trivial ⟨_, rfl, tfx_k0 h⟩ (by decide +kernel) (by decide +kernel) ?_
  refine round_ok (by omega) h e1 e2 e3 h1 h1' h2 h3 (tP_h b_oRnd (fun M' w T' hr k f => ?_) (fun c M' w T' hc hr k f => ?_))
  · obtain ⟨I', L', R'⟩ := M'
    exact zW.gr [] rfl rfl rfl (by omega) (oRo_ar (oRo_K ho f)) trivial (hP_0 hQ ho hr k f rfl)
  · rcases (show c = 0 ∨ c = 1 by omega) with rfl | rfl
    · exact zaft_x rfl (fun q => zW.gr [] rfl rfl rfl (by omega) trivial trivial (hP_t hQ hr k f (zcn_I _)))
    · exact zaft_x rfl (fun q => zW.gr [] rfl rfl rfl (by omega) trivial trivial (hP_t hQ hr k f (zcn_I _)))
theorem h285_ok {v1 v2 v3 v4 v5 v6 : Int} {a1 a2 a3 a4 a5 a6 : Int32} (hd : 20 ≤ d) (h : tfx x z T (I, L, R)) (ho : oRo x z o 21 R) (e1 : a1 = iI v1) (e2 : a2 = iI v2) (e3 : a3 = iI v3) (e4 : a4 = iI v4) (e5 : a5 = iI v5) (e6 : a6 = iI v6) (h1 : i32 v1) (h2 : i32 v2) (h3 : i32 v3) (h4 : i32 v4) (h5 : i32 v5) (h6 : i32 v6) (hQ : hP x z o (I, L, R) (oAtt T v1 v2 v3 v4 v5 v6) cI Q) : zS 285 d [zr (some x), zi a1, zi a2, zi a3, zi a4, zi a5, zi a6, zr (some o)] (I, L, R) Q := by
  refine zW.gc [] rfl rfl rfl (by omega) trivial ⟨_, rfl, tfx_k0 h⟩ (by decide +kernel) (by decide +kernel) ?_
  refine attempt_ok (by omega) h e1 e2 e3 e4 e5 e6 h3 h4 h5 h6 h1 h2 (tP_h b_oAtt (fun M' w T' hr k f => ?_) (fun c M' w T' hc hr k f => ?_))
  · obtain ⟨I', L', R'⟩ := M'
    exact zW.gr [] rfl rfl rfl (by omega) (oRo_ar (oRo_K ho f)) trivial (hP_0 hQ ho hr k f rfl)
  · rcases (show c = 0 ∨ c = 1 ∨ c = 2 by omega) with rfl | rfl | rfl
    · exact zaft_x rfl (fun q => zW.gr [] rfl rfl rfl (by omega) trivial trivial (hP_t hQ hr k f (zcn_I _)))
    · exact zaft_x rfl (fun q => zW.gr [] rfl rfl rfl (by omega) trivial trivial (hP_t hQ hr k f (zcn_I _)))
    · exact zaft_x rfl (fun q => zW.gr [] rfl rfl rfl (by omega) trivial trivial (hP_t hQ hr k f (zcn_I _)))
theorem h286_ok {v1 v2 v3 : Int} {a1 a2 a3 : Int32} (hd : 20 ≤ d) (h : tfx x z T (I, L, R)) (ho : oRo x z o 21 R) (e1 : a1 = iI v1) (e2 : a2 = iI v2) (e3 : a3 = iI v3) (h1 : i32 v1) (h2 : i32 v2) (h3 : i32 v3) (hQ : hP x z o (I, L, R) (oMov T v1 v2 v3) cI Q) : zS 286 d [zr (some x), zi a1, zi a2, zi a3, zr (some o)] (I, L, R) Q := by
  refine zW.gc [] rfl rfl rfl (by omega) trivial ⟨_, rfl, tfx_k0 h⟩ (by decide +kernel) (by decide +kernel) ?_
  refine moves_ok (by omega) h e1 e2 e3 h3 h1 h2 (tP_h b_oMov (fun M' w T' hr k f => ?_) (fun c M' w T' hc hr k f => ?_))
  · obtain ⟨I', L', R'⟩ := M'
    exact zW.gr [] rfl rfl rfl (by omega) (oRo_ar (oRo_K ho f)) trivial (hP_0 hQ ho hr k f rfl)
  · rcases (show c = 0 ∨ c = 1 by omega) with rfl | rfl
    · exact zaft_x rfl (fun q => zW.gr [] rfl rfl rfl (by omega) trivial trivial (hP_t hQ hr k f (zcn_I _)))
    · exact zaft_x rfl (fun q => zW.gr [] rfl rfl rfl (by omega) trivial trivial (hP_t hQ hr k f (zcn_I _)))
theorem h287_ok {v1 v2 v3 v4 v5 : Int} {a1 a2 a3 a4 a5 : Int32} (hd : 20 ≤ d) (h : tfx x z T (I, L, R)) (ho : oRo x z o 21 R) (e1 : a1 = iI v1) (e2 : a2 = iI v2) (e3 : a3 = iI v3) (e4 : a4 = iI v4) (e5 : a5 = iI v5) (h1 : i32 v1) (h2 : i32 v2) (h3 : i32 v3) (h4 : i32 v4) (h5 : i32 v5) (hQ : hP x z o (I, L, R) (oSev T v1 v2 v3 v4 v5) cI Q) : zS 287 d [zr (some x), zi a1, zi a2, zi a3, zi a4, zi a5, zr (some o)] (I, L, R) Q := by
  refine zW.gc [] rfl rfl rfl (by omega) trivial ⟨_, rfl, tfx_k0 h⟩ (by decide +kernel) (by decide +kernel) ?_
  refine several_ok (by omega) h e1 e2 e3 e4 e5 h3 h4 h5 h1 h2 (tP_h b_oSev (fun M' w T' hr k f => ?_) (fun c M' w T' hc hr k f => ?_))
  · obtain ⟨I', L', R'⟩ := M'
    exact zW.gr [] rfl rfl rfl (by omega) (oRo_ar (oRo_K ho f)) trivial (hP_0 hQ ho hr k f rfl)
  · rcases (show c = 0 ∨ c = 1 ∨ c = 2 by omega) with rfl | rfl | rfl
    · exact zaft_x rfl (fun q => zW.gr [] rfl rfl rfl (by omega) trivial trivial (hP_t hQ hr k f (zcn_I _)))
    · exact zaft_x rfl (fun q => zW.gr [] rfl rfl rfl (by omega) trivial trivial (hP_t hQ hr k f (zcn_I _)))
    · exact zaft_x rfl (fun q => zW.gr [] rfl rfl rfl (by omega) trivial trivial (hP_t hQ hr k f (zcn_I _)))
theorem h288_ok {v1 v2 : Int} {a1 a2 : Int32} (hd : 20 ≤ d) (h : tfx x z T (I, L, R)) (ho : oRo x z o 21 R) (e1 : a1 = iI v1) (e2 : a2 = iI v2) (h1 : i32 v1) (h2 : i32 v2) (hQ : hP x z o (I, L, R) (oAtts T v1 v2) cI Q) : zS 288 d [zr (some x), zi a1, zi a2, zr (some o)] (I, L, R) Q := by
  refine zW.gc [] rfl rfl rfl (by omega) trivial ⟨_, rfl, tfx_k0 h⟩ (by decide +kernel) (by decide +kernel) ?_
  refine attempts_ok (by omega) h e1 e2 h1 h2 (tP_h b_oAtts (fun M' w T' hr k f => ?_) (fun c M' w T' hc hr k f => ?_))
  · obtain ⟨I', L', R'⟩ := M'
    exact zW.gr [] rfl rfl rfl (by omega) (oRo_ar (oRo_K ho f)) trivial (hP_0 hQ ho hr k f rfl)
  · obtain rfl : c = 0 := by omega
    · exact zaft_x rfl (fun q => zW.gr [] rfl rfl rfl (by omega) trivial trivial (hP_t hQ hr k f (zcn_I _)))
theorem h289_ok {v1 v2 : Int} {a1 a2 : Int32} (hd : 20 ≤ d) (h : tfx x z T (I, L, R)) (ho : oRo x z o 21 R) (e1 : a1 = iI v1) (e2 : a2 = iI v2) (h1 : i32 v1) (h2 : i32 v2) (hQ : hP x z o (I, L, R) (oBest T v1 v2) cI Q) : zS 289 d [zr (some x), zi a1, zi a2, zr (some o)] (I, L, R) Q := by
  refine zW.gc [] rfl rfl rfl (by omega) trivial ⟨_, rfl, tfx_k0 h⟩ (by decide +kernel) (by decide +kernel) ?_
  refine bestT_ok (by omega) h e1 e2 h1 h2 (tP_h b_oBest (fun M' w T' hr k f => ?_) (fun c M' w T' hc hr k f => ?_))
  · obtain ⟨I', L', R'⟩ := M'
    exact zW.gr [] rfl rfl rfl (by omega) (oRo_ar (oRo_K ho f)) trivial (hP_0 hQ ho hr k f rfl)
  · rcases (show c = 0 ∨ c = 1 by omega) with rfl | rfl
    · exact zaft_x rfl (fun q => zW.gr [] rfl rfl rfl (by omega) trivial trivial (hP_t hQ hr k f (zcn_I _)))
    · exact zaft_x rfl (fun q => zW.gr [] rfl rfl rfl (by omega) trivial trivial (hP_t hQ hr k f (zcn_I _)))
theorem h290_ok {v1 v2 : Int} {a1 a2 : Int32} (hd : 20 ≤ d) (h : tfx x z T (I, L, R)) (ho : oRo x z o 21 R) (e1 : a1 = iI v1) (e2 : a2 = iI v2) (h1 : i32 v1) (h2 : i32 v2) (hQ : hP x z o (I, L, R) (oAver T v1 v2) cI Q) : zS 290 d [zr (some x), zi a1, zi a2, zr (some o)] (I, L, R) Q := by
  refine zW.gc [] rfl rfl rfl (by omega) trivial ⟨_, rfl, tfx_k0 h⟩ (by decide +kernel) (by decide +kernel) ?_
  refine average_ok (by omega) h e1 e2 h1 h2 (tP_h b_oAver (fun M' w T' hr k f => ?_) (fun c M' w T' hc hr k f => ?_))
  · obtain ⟨I', L', R'⟩ := M'
    exact zW.gr [] rfl rfl rfl (by omega) (oRo_ar (oRo_K ho f)) trivial (hP_0 hQ ho hr k f rfl)
  · rcases (show c = 0 ∨ c = 1 ∨ c = 2 by omega) with rfl | rfl | rfl
    · exact zaft_x rfl (fun q => zW.gr [] rfl rfl rfl (by omega) trivial trivial (hP_t hQ hr k f (zcn_I _)))
    · exact zaft_x rfl (fun q => zW.gr [] rfl rfl rfl (by omega) trivial trivial (hP_t hQ hr k f (zcn_I _)))
    · exact zaft_x rfl (fun q => zW.gr [] rfl rfl rfl (by omega) trivial trivial (hP_t hQ hr k f (zcn_I _)))
theorem h291_ok {v1 v2 : Int} {a1 a2 : Int32} (hd : 20 ≤ d) (h : tfx x z T (I, L, R)) (ho : oRo x z o 21 R) (e1 : a1 = iI v1) (e2 : a2 = iI v2) (h1 : i32 v1) (h2 : i32 v2) (hQ : hP x z o (I, L, R) (oRank T v1 v2) cI Q) : zS 291 d [zr (some x), zi a1, zi a2, zr (some o)] (I, L, R) Q := by
  refine zW.gc [] rfl rfl rfl (by omega) trivial ⟨_, rfl, tfx_k0 h⟩ (by decide +kernel) (by decide +kernel) ?_
  refine rankT_ok (by omega) h e1 e2 h1 h2 (tP_h b_oRank (fun M' w T' hr k f => ?_) (fun c M' w T' hc hr k f => ?_))
  · obtain ⟨I', L', R'⟩ := M'
    exact zW.gr [] rfl rfl rfl (by omega) (oRo_ar (oRo_K ho f)) trivial (hP_0 hQ ho hr k f rfl)
  · rcases (show c = 0 ∨ c = 1 by omega) with rfl | rfl
    · exact zaft_x rfl (fun q => zW.gr [] rfl rfl rfl (by omega) trivial trivial (hP_t hQ hr k f (zcn_I _)))
    · exact zaft_x rfl (fun q => zW.gr [] rfl rfl rfl (by omega) trivial trivial (hP_t hQ hr k f (zcn_I _)))
theorem h292_ok {v1 v2 v3 : Int} {a1 a2 a3 : Int32} (hd : 20 ≤ d) (h : tfx x z T (I, L, R)) (ho : oRo x z o 21 R) (e1 : a1 = iI v1) (e2 : a2 = iI v2) (e3 : a3 = iI v3) (h1 : i32 v1) (h2 : i32 v2) (h3 : i32 v3) (hQ : hP x z o (I, L, R) (oAdv T v1 v2 v3) cB Q) : zS 292 d [zr (some x), zi a1, zi a2, zi a3, zr (some o)] (I, L, R) Q := by
  refine zW.gc [] rfl rfl rfl (by omega) trivial ⟨_, rfl, tfx_k0 h⟩ (by decide +kernel) (by decide +kernel) ?_
  refine advances_ok (by omega) h e1 e2 e3 h3 h1 h2 (tP_h b_oAdv (fun M' w T' hr k f => ?_) (fun c M' w T' hc hr k f => ?_))
  · obtain ⟨I', L', R'⟩ := M'
    refine zW.gb [] rfl rfl rfl (by omega) trivial (fun g => ?_) (fun g => ?_)
    · exact zW.gr [] rfl rfl rfl (by omega) (oRo_ar (oRo_K ho f)) trivial (hP_0 hQ ho hr k f (if_pos g).symm)
    · exact zW.gr [] rfl rfl rfl (by omega) (oRo_ar (oRo_K ho f)) trivial (hP_0 hQ ho hr k f (if_neg g).symm)
  · rcases (show c = 0 ∨ c = 1 by omega) with rfl | rfl
    · exact zaft_x rfl (fun q => zW.gr [] rfl rfl rfl (by omega) trivial trivial (hP_t hQ hr k f (zcn_I _)))
    · exact zaft_x rfl (fun q => zW.gr [] rfl rfl rfl (by omega) trivial trivial (hP_t hQ hr k f (zcn_I _)))
theorem h293_ok {v1 v2 : Int} {a1 a2 : Int32} (hd : 20 ≤ d) (h : tfx x z T (I, L, R)) (ho : oRo x z o 21 R) (e1 : a1 = iI v1) (e2 : a2 = iI v2) (h1 : i32 v1) (h2 : i32 v2) (hQ : hP x z o (I, L, R) (oClose T v1 v2) cI Q) : zS 293 d [zr (some x), zi a1, zi a2, zr (some o)] (I, L, R) Q := by
  refine zW.gc [] rfl rfl rfl (by omega) trivial ⟨_, rfl, tfx_k0 h⟩ (by decide +kernel) (by decide +kernel) ?_
  refine close_ok (by omega) h e1 e2 h1 h2 (tP_h b_oClose (fun M' w T' hr k f => ?_) (fun c M' w T' hc hr k f => ?_))
  · obtain ⟨I', L', R'⟩ := M'
    exact zW.gr [] rfl rfl rfl (by omega) (oRo_ar (oRo_K ho f)) trivial (hP_0 hQ ho hr k f rfl)
  · rcases (show c = 0 ∨ c = 1 ∨ c = 2 by omega) with rfl | rfl | rfl
    · exact zaft_x rfl (fun q => zW.gr [] rfl rfl rfl (by omega) trivial trivial (hP_t hQ hr k f (zcn_I _)))
    · exact zaft_x rfl (fun q => zW.gr [] rfl rfl rfl (by omega) trivial trivial (hP_t hQ hr k f (zcn_I _)))
    · exact zaft_x rfl (fun q => zW.gr [] rfl rfl rfl (by omega) trivial trivial (hP_t hQ hr k f (zcn_I _)))
theorem h294_ok {v1 : Int} {a1 : Int32} (hd : 20 ≤ d) (h : tfx x z T (I, L, R)) (ho : oRo x z o 21 R) (e1 : a1 = iI v1) (h1 : i32 v1) (hQ : hP x z o (I, L, R) (oUndo T v1) cI Q) : zS 294 d [zr (some x), zi a1, zr (some o)] (I, L, R) Q := by
  refine zW.gc [] rfl rfl rfl (by omega) trivial ⟨_, rfl, tfx_k0 h⟩ (by decide +kernel) (by decide +kernel) ?_
  refine undo_ok (by omega) h e1 h1 (tP_h b_oUndo (fun M' w T' hr k f => ?_) (fun c M' w T' hc hr k f => ?_))
  · obtain ⟨I', L', R'⟩ := M'
    exact zW.gr [] rfl rfl rfl (by omega) (oRo_ar (oRo_K ho f)) trivial (hP_0 hQ ho hr k f rfl)
  · rcases (show c = 0 ∨ c = 1 by omega) with rfl | rfl
    · exact zaft_x rfl (fun q => zW.gr [] rfl rfl rfl (by omega) trivial trivial (hP_t hQ hr k f (zcn_I _)))
    · exact zaft_x rfl (fun q => zW.gr [] rfl rfl rfl (by omega) trivial trivial (hP_t hQ hr k f (zcn_I _)))
theorem h295_ok {v1 v2 v3 : Int} {a1 a2 a3 : Int32} (hd : 20 ≤ d) (h : tfx x z T (I, L, R)) (ho : oRo x z o 21 R) (e1 : a1 = iI v1) (e2 : a2 = iI v2) (e3 : a3 = iI v3) (h1 : i32 v1) (h2 : i32 v2) (h3 : i32 v3) (hQ : hP x z o (I, L, R) (oIsRec T v1 v2 v3) cB Q) : zS 295 d [zr (some x), zi a1, zi a2, zi a3, zr (some o)] (I, L, R) Q := by
  refine zW.gc [] rfl rfl rfl (by omega) trivial ⟨_, rfl, tfx_k0 h⟩ (by decide +kernel) (by decide +kernel) ?_
  refine isRecord_ok (by omega) h e1 e2 e3 h1 h2 h3 (tP_h b_oIsRec (fun M' w T' hr k f => ?_) (fun c M' w T' hc hr k f => ?_))
  · obtain ⟨I', L', R'⟩ := M'
    refine zW.gb [] rfl rfl rfl (by omega) trivial (fun g => ?_) (fun g => ?_)
    · exact zW.gr [] rfl rfl rfl (by omega) (oRo_ar (oRo_K ho f)) trivial (hP_0 hQ ho hr k f (if_pos g).symm)
    · exact zW.gr [] rfl rfl rfl (by omega) (oRo_ar (oRo_K ho f)) trivial (hP_0 hQ ho hr k f (if_neg g).symm)
  · obtain rfl : c = 0 := by omega
    · exact zaft_x rfl (fun q => zW.gr [] rfl rfl rfl (by omega) trivial trivial (hP_t hQ hr k f (zcn_I _)))
end LHEL
