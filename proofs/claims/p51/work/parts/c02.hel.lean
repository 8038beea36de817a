/-! The law's helpers. -/
section LHEL
variable {d x z : Nat} {T : tfT} {I : Nat → Nat → Int32} {L : Nat → Nat → Int64} {R : zRt} {Q : zO → zM → Prop}
theorem h255_ok {v1 : Int} {a1 : Int32} (hd : 20 ≤ d) (h : tfx x z T (I, L, R)) (e1 : a1 = iI v1) (h1 : i32 v1) (hQ : hR x z (I, L, R) (oTypeP T v1) eI Q) : zS 255 d [zr (some x), zi a1] (I, L, R) Q := by
  refine zW.gc [] rfl rfl rfl (by omega) trivial ⟨_, rfl, tfx_k0 h⟩ (by decide +kernel) (by decide +kernel) ?_
  refine typePlace_ok (by omega) h e1 h1 (tP_h b_oTypeP (fun M' w T' hr k f => ?_) (fun c M' w T' hc hr k f => ?_))
  · exact zW.gr [] rfl rfl rfl (by omega) trivial trivial (hR_0 hQ hr k f)
  · rcases (show c = 0 ∨ c = 1 ∨ c = 2 by omega) with rfl | rfl | rfl
    · exact zaft_x rfl (fun q => zW.gr [] rfl rfl rfl (by omega) trivial trivial (hR_t hQ hr k f (by decide +kernel)))
    · exact zaft_x rfl (fun q => zW.gr [] rfl rfl rfl (by omega) trivial trivial (hR_t hQ hr k f (by decide +kernel)))
    · exact zaft_x rfl (fun q => zW.gr [] rfl rfl rfl (by omega) trivial trivial (hR_t hQ hr k f (by decide +kernel)))
theorem h256_ok {v1 : Int} {a1 : Int32} (hd : 20 ≤ d) (h : tfx x z T (I, L, R)) (e1 : a1 = iI v1) (h1 : i32 v1) (hQ : hR x z (I, L, R) (oPuz T v1) eI Q) : zS 256 d [zr (some x), zi a1] (I, L, R) Q := by
  refine zW.gc [] rfl rfl rfl (by omega) trivial ⟨_, rfl, tfx_k0 h⟩ (by decide +kernel) (by decide +kernel) ?_
  refine puzzle_ok (by omega) h e1 h1 (tP_h b_oPuz (fun M' w T' hr k f => ?_) (fun c M' w T' hc hr k f => ?_))
  · exact zW.gr [] rfl rfl rfl (by omega) trivial trivial (hR_0 hQ hr k f)
  · rcases (show c = 0 ∨ c = 1 by omega) with rfl | rfl
    · exact zaft_x rfl (fun q => zW.gr [] rfl rfl rfl (by omega) trivial trivial (hR_t hQ hr k f (by decide +kernel)))
    · exact zaft_x rfl (fun q => zW.gr [] rfl rfl rfl (by omega) trivial trivial (hR_t hQ hr k f (by decide +kernel)))
theorem h257_ok {v1 v2 : Int} {a1 a2 : Int32} (hd : 20 ≤ d) (h : tfx x z T (I, L, R)) (e1 : a1 = iI v1) (e2 : a2 = iI v2) (h1 : i32 v1) (h2 : i32 v2) (hQ : hR x z (I, L, R) (oRing T v1 v2) eI Q) : zS 257 d [zr (some x), zi a1, zi a2] (I, L, R) Q := by
  refine zW.gc [] rfl rfl rfl (by omega) trivial ⟨_, rfl, tfx_k0 h⟩ (by decide +kernel) (by decide +kernel) ?_
  refine ring_ok (by omega) h e1 e2 h1 h2 (tP_h b_oRing (fun M' w T' hr k f => ?_) (fun c M' w T' hc hr k f => ?_))
  · exact zW.gr [] rfl rfl rfl (by omega) trivial trivial (hR_0 hQ hr k f)
  · rcases (show c = 0 ∨ c = 1 ∨ c = 2 by omega) with rfl | rfl | rfl
    · exact zaft_x rfl (fun q => zW.gr [] rfl rfl rfl (by omega) trivial trivial (hR_t hQ hr k f (by decide +kernel)))
    · exact zaft_x rfl (fun q => zW.gr [] rfl rfl rfl (by omega) trivial trivial (hR_t hQ hr k f (by decide +kernel)))
    · exact zaft_x rfl (fun q => zW.gr [] rfl rfl rfl (by omega) trivial trivial (hR_t hQ hr k f (by decide +kernel)))
theorem h258_ok {v1 v2 v3 : Int} {a1 a2 a3 : Int32} (hd : 20 ≤ d) (h : tfx x z T (I, L, R)) (e1 : a1 = iI v1) (e2 : a2 = iI v2) (e3 : a3 = iI v3) (h1 : i32 v1) (h2 : i32 v2) (h3 : i32 v3) (hQ : hR x z (I, L, R) (oColour T v1 v2 v3) eI Q) : zS 258 d [zr (some x), zi a1, zi a2, zi a3] (I, L, R) Q := by
  refine zW.gc [] rfl rfl rfl (by omega) trivial ⟨_, rfl, tfx_k0 h⟩ (by decide +kernel) (by decide +kernel) ?_
  refine colour_ok (by omega) h e1 e2 e3 h1 h2 h3 (tP_h b_oColour (fun M' w T' hr k f => ?_) (fun c M' w T' hc hr k f => ?_))
  · exact zW.gr [] rfl rfl rfl (by omega) trivial trivial (hR_0 hQ hr k f)
  · rcases (show c = 0 ∨ c = 1 by omega) with rfl | rfl
    · exact zaft_x rfl (fun q => zW.gr [] rfl rfl rfl (by omega) trivial trivial (hR_t hQ hr k f (by decide +kernel)))
    · exact zaft_x rfl (fun q => zW.gr [] rfl rfl rfl (by omega) trivial trivial (hR_t hQ hr k f (by decide +kernel)))
theorem h259_ok {v1 v2 v3 : Int} {a1 a2 a3 : Int32} (hd : 20 ≤ d) (h : tfx x z T (I, L, R)) (e1 : a1 = iI v1) (e2 : a2 = iI v2) (e3 : a3 = iI v3) (h1 : i32 v1) (h2 : 0 ≤ v2) (h2' : v2 < 65536) (h3 : i32 v3) (hQ : hR x z (I, L, R) (oTurn T v1 v2 v3) eI Q) : zS 259 d [zr (some x), zi a1, zi a2, zi a3] (I, L, R) Q := by
  refine zW.gc [] rfl rfl rfl (by omega) trivial ⟨_, rfl, tfx_k0 h⟩ (by decide +kernel) (by decide +kernel) ?_
  refine turnT_ok (by omega) h e1 e2 e3 h1 h2 h2' h3 (tP_h b_oTurn (fun M' w T' hr k f => ?_) (fun c M' w T' hc hr k f => ?_))
  · exact zW.gr [] rfl rfl rfl (by omega) trivial trivial (hR_0 hQ hr k f)
  · rcases (show c = 0 ∨ c = 1 by omega) with rfl | rfl
    · exact zaft_x rfl (fun q => zW.gr [] rfl rfl rfl (by omega) trivial trivial (hR_t hQ hr k f (by decide +kernel)))
    · exact zaft_x rfl (fun q => zW.gr [] rfl rfl rfl (by omega) trivial trivial (hR_t hQ hr k f (by decide +kernel)))
theorem h260_ok {v1 v2 : Int} {a1 a2 : Int32} (hd : 20 ≤ d) (h : tfx x z T (I, L, R)) (e1 : a1 = iI v1) (e2 : a2 = iI v2) (h1 : i32 v1) (h2 : i32 v2) (hQ : hR x z (I, L, R) (oPiece T v1 v2) eI Q) : zS 260 d [zr (some x), zi a1, zi a2] (I, L, R) Q := by
  refine zW.gc [] rfl rfl rfl (by omega) trivial ⟨_, rfl, tfx_k0 h⟩ (by decide +kernel) (by decide +kernel) ?_
  refine pieceAt_ok (by omega) h e1 e2 h1 h2 (tP_h b_oPiece (fun M' w T' hr k f => ?_) (fun c M' w T' hc hr k f => ?_))
  · exact zW.gr [] rfl rfl rfl (by omega) trivial trivial (hR_0 hQ hr k f)
  · obtain rfl : c = 0 := by omega
    · exact zaft_x rfl (fun q => zW.gr [] rfl rfl rfl (by omega) trivial trivial (hR_t hQ hr k f (by decide +kernel)))
theorem h261_ok {v1 v2 v3 : Int} {a1 a2 a3 : Int32} (hd : 20 ≤ d) (h : tfx x z T (I, L, R)) (e1 : a1 = iI v1) (e2 : a2 = iI v2) (e3 : a3 = iI v3) (h1 : i32 v1) (h2 : i32 v2) (h3 : i32 v3) (hQ : hR x z (I, L, R) (oSwap T v1 v2 v3) eI Q) : zS 261 d [zr (some x), zi a1, zi a2, zi a3] (I, L, R) Q := by
  refine zW.gc [] rfl rfl rfl (by omega) trivial ⟨_, rfl, tfx_k0 h⟩ (by decide +kernel) (by decide +kernel) ?_
  refine swapT_ok (by omega) h e1 e2 e3 h1 h2 h3 (tP_h b_oSwap (fun M' w T' hr k f => ?_) (fun c M' w T' hc hr k f => ?_))
  · exact zW.gr [] rfl rfl rfl (by omega) trivial trivial (hR_0 hQ hr k f)
  · rcases (show c = 0 ∨ c = 1 by omega) with rfl | rfl
    · exact zaft_x rfl (fun q => zW.gr [] rfl rfl rfl (by omega) trivial trivial (hR_t hQ hr k f (by decide +kernel)))
    · exact zaft_x rfl (fun q => zW.gr [] rfl rfl rfl (by omega) trivial trivial (hR_t hQ hr k f (by decide +kernel)))
theorem h262_ok {v1 : Int} {a1 : Int32} (hd : 20 ≤ d) (h : tfx x z T (I, L, R)) (e1 : a1 = iI v1) (h1 : i32 v1) (hQ : hR x z (I, L, R) (oReset T v1) eI Q) : zS 262 d [zr (some x), zi a1] (I, L, R) Q := by
  refine zW.gc [] rfl rfl rfl (by omega) trivial ⟨_, rfl, tfx_k0 h⟩ (by decide +kernel) (by decide +kernel) ?_
  refine reset_ok (by omega) h e1 h1 (tP_h b_oReset (fun M' w T' hr k f => ?_) (fun c M' w T' hc hr k f => ?_))
  · exact zW.gr [] rfl rfl rfl (by omega) trivial trivial (hR_0 hQ hr k f)
  · obtain rfl : c = 0 := by omega
    · exact zaft_x rfl (fun q => zW.gr [] rfl rfl rfl (by omega) trivial trivial (hR_t hQ hr k f (by decide +kernel)))
theorem h264_ok {v1 : Int} {a1 : Int32} (hd : 20 ≤ d) (h : tfx x z T (I, L, R)) (e1 : a1 = iI v1) (h1 : i32 v1) (hQ : hR x z (I, L, R) (oOrder T v1) eL Q) : zS 264 d [zr (some x), zi a1] (I, L, R) Q := by
  refine zW.gc [] rfl rfl rfl (by omega) trivial ⟨_, rfl, tfx_k0 h⟩ (by decide +kernel) (by decide +kernel) ?_
  refine order_ok (by omega) h e1 h1 (tP_h b_oOrder (fun M' w T' hr k f => ?_) (fun c M' w T' hc hr k f => ?_))
  · exact zW.gr [] rfl rfl rfl (by omega) trivial trivial (hR_0 hQ hr k f)
  · obtain rfl : c = 0 := by omega
    · exact zaft_x rfl (fun q => zW.gr [] rfl rfl rfl (by omega) trivial trivial (hR_t hQ hr k f (by decide +kernel)))
theorem h266_ok {v1 : Int} {a1 : Int32} (hd : 20 ≤ d) (h : tfx x z T (I, L, R)) (e1 : a1 = iI v1) (h1 : i32 v1) (hQ : hR x z (I, L, R) (oCentre T v1) eI Q) : zS 266 d [zr (some x), zi a1] (I, L, R) Q := by
  refine zW.gc [] rfl rfl rfl (by omega) trivial ⟨_, rfl, tfx_k0 h⟩ (by decide +kernel) (by decide +kernel) ?_
  refine centreT_ok (by omega) h e1 h1 (tP_h b_oCentre (fun M' w T' hr k f => ?_) (fun c M' w T' hc hr k f => ?_))
  · exact zW.gr [] rfl rfl rfl (by omega) trivial trivial (hR_0 hQ hr k f)
  · rcases (show c = 0 ∨ c = 1 by omega) with rfl | rfl
    · exact zaft_x rfl (fun q => zW.gr [] rfl rfl rfl (by omega) trivial trivial (hR_t hQ hr k f (by decide +kernel)))
    · exact zaft_x rfl (fun q => zW.gr [] rfl rfl rfl (by omega) trivial trivial (hR_t hQ hr k f (by decide +kernel)))
theorem h267_ok {v1 : Int} {a1 : Int32} (hd : 20 ≤ d) (h : tfx x z T (I, L, R)) (e1 : a1 = iI v1) (h1 : i32 v1) (hQ : hR x z (I, L, R) (oKinds T v1) eI Q) : zS 267 d [zr (some x), zi a1] (I, L, R) Q := by
  refine zW.gc [] rfl rfl rfl (by omega) trivial ⟨_, rfl, tfx_k0 h⟩ (by decide +kernel) (by decide +kernel) ?_
  refine kindsT_ok (by omega) h e1 h1 (tP_h b_oKinds (fun M' w T' hr k f => ?_) (fun c M' w T' hc hr k f => ?_))
  · exact zW.gr [] rfl rfl rfl (by omega) trivial trivial (hR_0 hQ hr k f)
  · rcases (show c = 0 ∨ c = 1 by omega) with rfl | rfl
    · exact zaft_x rfl (fun q => zW.gr [] rfl rfl rfl (by omega) trivial trivial (hR_t hQ hr k f (by decide +kernel)))
    · exact zaft_x rfl (fun q => zW.gr [] rfl rfl rfl (by omega) trivial trivial (hR_t hQ hr k f (by decide +kernel)))
theorem h269_ok {v1 : Int} {a1 : Int32} (hd : 20 ≤ d) (h : tfx x z T (I, L, R)) (e1 : a1 = iI v1) (h1 : i32 v1) (hQ : hR x z (I, L, R) (oOrbs T v1) eI Q) : zS 269 d [zr (some x), zi a1] (I, L, R) Q := by
  refine zW.gc [] rfl rfl rfl (by omega) trivial ⟨_, rfl, tfx_k0 h⟩ (by decide +kernel) (by decide +kernel) ?_
  refine orbits_ok (by omega) h e1 h1 (tP_h b_oOrbs (fun M' w T' hr k f => ?_) (fun c M' w T' hc hr k f => ?_))
  · exact zW.gr [] rfl rfl rfl (by omega) trivial trivial (hR_0 hQ hr k f)
  · obtain rfl : c = 0 := by omega
    · exact zaft_x rfl (fun q => zW.gr [] rfl rfl rfl (by omega) trivial trivial (hR_t hQ hr k f (by decide +kernel)))
theorem h270_ok {v1 : Int} {a1 : Int32} (hd : 20 ≤ d) (h : tfx x z T (I, L, R)) (e1 : a1 = iI v1) (h1 : i32 v1) (hQ : hR x z (I, L, R) (oPer T v1) eI Q) : zS 270 d [zr (some x), zi a1] (I, L, R) Q := by
  refine zW.gc [] rfl rfl rfl (by omega) trivial ⟨_, rfl, tfx_k0 h⟩ (by decide +kernel) (by decide +kernel) ?_
  refine period_ok (by omega) h e1 h1 (tP_h b_oPer (fun M' w T' hr k f => ?_) (fun c M' w T' hc hr k f => ?_))
  · exact zW.gr [] rfl rfl rfl (by omega) trivial trivial (hR_0 hQ hr k f)
  · obtain rfl : c = 0 := by omega
    · exact zaft_x rfl (fun q => zW.gr [] rfl rfl rfl (by omega) trivial trivial (hR_t hQ hr k f (by decide +kernel)))
theorem h271_ok {v1 : Int} {a1 : Int32} (hd : 20 ≤ d) (h : tfx x z T (I, L, R)) (e1 : a1 = iI v1) (h1 : i32 v1) (hQ : hR x z (I, L, R) (oNumb T v1) eL Q) : zS 271 d [zr (some x), zi a1] (I, L, R) Q := by
  refine zW.gc [] rfl rfl rfl (by omega) trivial ⟨_, rfl, tfx_k0 h⟩ (by decide +kernel) (by decide +kernel) ?_
  refine numberOf_ok (by omega) h e1 h1 (tP_h b_oNumb (fun M' w T' hr k f => ?_) (fun c M' w T' hc hr k f => ?_))
  · exact zW.gr [] rfl rfl rfl (by omega) trivial trivial (hR_0 hQ hr k f)
  · rcases (show c = 0 ∨ c = 1 by omega) with rfl | rfl
    · exact zaft_x rfl (fun q => zW.gr [] rfl rfl rfl (by omega) trivial trivial (hR_t hQ hr k f (by decide +kernel)))
    · exact zaft_x rfl (fun q => zW.gr [] rfl rfl rfl (by omega) trivial trivial (hR_t hQ hr k f (by decide +kernel)))
theorem h272_ok {v1 v2 : Int} {a1 : Int32} {a2 : Int64} (hd : 20 ≤ d) (h : tfx x z T (I, L, R)) (e1 : a1 = iI v1) (e2 : a2 = iL v2) (h1 : i32 v1) (h2 : -9223372036854775808 ≤ v2) (h2' : v2 < 9223372036854775808) (hQ : hR x z (I, L, R) (oToNum T v1 v2) eI Q) : zS 272 d [zr (some x), zi a1, zl a2] (I, L, R) Q := by
  refine zW.gc [] rfl rfl rfl (by omega) trivial ⟨_, rfl, tfx_k0 h⟩ (by decide +kernel) (by decide +kernel) ?_
  refine toNumber_ok (by omega) h e1 h1 e2 h2 h2' (tP_h b_oToNum (fun M' w T' hr k f => ?_) (fun c M' w T' hc hr k f => ?_))
  · exact zW.gr [] rfl rfl rfl (by omega) trivial trivial (hR_0 hQ hr k f)
  · rcases (show c = 0 ∨ c = 1 by omega) with rfl | rfl
    · exact zaft_x rfl (fun q => zW.gr [] rfl rfl rfl (by omega) trivial trivial (hR_t hQ hr k f (by decide +kernel)))
    · exact zaft_x rfl (fun q => zW.gr [] rfl rfl rfl (by omega) trivial trivial (hR_t hQ hr k f (by decide +kernel)))
theorem h273_ok {v1 v2 : Int} {a1 a2 : Int32} (hd : 20 ≤ d) (h : tfx x z T (I, L, R)) (e1 : a1 = iI v1) (e2 : a2 = iI v2) (h1 : i32 v1) (h2 : i32 v2) (hQ : hR x z (I, L, R) (oScr T v1 v2) eL Q) : zS 273 d [zr (some x), zi a1, zi a2] (I, L, R) Q := by
  refine zW.gc [] rfl rfl rfl (by omega) trivial ⟨_, rfl, tfx_k0 h⟩ (by decide +kernel) (by decide +kernel) ?_
  refine scramble_ok (by omega) h e1 e2 h1 h2 (tP_h b_oScr (fun M' w T' hr k f => ?_) (fun c M' w T' hc hr k f => ?_))
  · exact zW.gr [] rfl rfl rfl (by omega) trivial trivial (hR_0 hQ hr k f)
  · rcases (show c = 0 ∨ c = 1 by omega) with rfl | rfl
    · exact zaft_x rfl (fun q => zW.gr [] rfl rfl rfl (by omega) trivial trivial (hR_t hQ hr k f (by decide +kernel)))
    · exact zaft_x rfl (fun q => zW.gr [] rfl rfl rfl (by omega) trivial trivial (hR_t hQ hr k f (by decide +kernel)))
theorem h274_ok {v1 v2 : Int} {a1 a2 : Int32} (hd : 20 ≤ d) (h : tfx x z T (I, L, R)) (e1 : a1 = iI v1) (e2 : a2 = iI v2) (h1 : i32 v1) (h2 : 0 ≤ v2) (h2' : v2 < 65536) (hQ : hR x z (I, L, R) (oDist T v1 v2) eI Q) : zS 274 d [zr (some x), zi a1, zi a2] (I, L, R) Q := by
  refine zW.gc [] rfl rfl rfl (by omega) trivial ⟨_, rfl, tfx_k0 h⟩ (by decide +kernel) (by decide +kernel) ?_
  refine distance_ok (by omega) h e1 e2 h1 (i32_16 h2 h2') (tP_h b_oDist (fun M' w T' hr k f => ?_) (fun c M' w T' hc hr k f => ?_))
  · exact zW.gr [] rfl rfl rfl (by omega) trivial trivial (hR_0 hQ hr k f)
  · rcases (show c = 0 ∨ c = 1 ∨ c = 2 ∨ c = 3 by omega) with rfl | rfl | rfl | rfl
    · exact zaft_x rfl (fun q => zW.gr [] rfl rfl rfl (by omega) trivial trivial (hR_t hQ hr k f (by decide +kernel)))
    · exact zaft_x rfl (fun q => zW.gr [] rfl rfl rfl (by omega) trivial trivial (hR_t hQ hr k f (by decide +kernel)))
    · exact zaft_x rfl (fun q => zW.gr [] rfl rfl rfl (by omega) trivial trivial (hR_t hQ hr k f (by decide +kernel)))
    · exact zaft_x rfl (fun q => zW.gr [] rfl rfl rfl (by omega) trivial trivial (hR_t hQ hr k f (by decide +kernel)))
theorem h275_ok {v1 v2 : Int} {a1 a2 : Int32} (hd : 20 ≤ d) (h : tfx x z T (I, L, R)) (e1 : a1 = iI v1) (e2 : a2 = iI v2) (h1 : i32 v1) (h2 : 0 ≤ v2) (h2' : v2 < 65536) (hQ : hR x z (I, L, R) (oGod T v1 v2) eI Q) : zS 275 d [zr (some x), zi a1, zi a2] (I, L, R) Q := by
  refine zW.gc [] rfl rfl rfl (by omega) trivial ⟨_, rfl, tfx_k0 h⟩ (by decide +kernel) (by decide +kernel) ?_
  refine god_ok (by omega) h e1 e2 h1 (i32_16 h2 h2') (tP_h b_oGod (fun M' w T' hr k f => ?_) (fun c M' w T' hc hr k f => ?_))
  · exact zW.gr [] rfl rfl rfl (by omega) trivial trivial (hR_0 hQ hr k f)
  · rcases (show c = 0 ∨ c = 1 ∨ c = 2 by omega) with rfl | rfl | rfl
    · exact zaft_x rfl (fun q => zW.gr [] rfl rfl rfl (by omega) trivial trivial (hR_t hQ hr k f (by decide +kernel)))
    · exact zaft_x rfl (fun q => zW.gr [] rfl rfl rfl (by omega) trivial trivial (hR_t hQ hr k f (by decide +kernel)))
    · exact zaft_x rfl (fun q => zW.gr [] rfl rfl rfl (by omega) trivial trivial (hR_t hQ hr k f (by decide +kernel)))
theorem h276_ok {v1 v2 v3 : Int} {a1 a2 a3 : Int32} (hd : 20 ≤ d) (h : tfx x z T (I, L, R)) (e1 : a1 = iI v1) (e2 : a2 = iI v2) (e3 : a3 = iI v3) (h1 : i32 v1) (h2 : 0 ≤ v2) (h2' : v2 < 65536) (h3 : i32 v3) (hQ : hR x z (I, L, R) (oMany T v1 v2 v3) eI Q) : zS 276 d [zr (some x), zi a1, zi a2, zi a3] (I, L, R) Q := by
  refine zW.gc [] rfl rfl rfl (by omega) trivial ⟨_, rfl, tfx_k0 h⟩ (by decide +kernel) (by decide +kernel) ?_
  refine many_ok (by omega) h e1 e2 e3 h1 (i32_16 h2 h2') h3 (tP_h b_oMany (fun M' w T' hr k f => ?_) (fun c M' w T' hc hr k f => ?_))
  · exact zW.gr [] rfl rfl rfl (by omega) trivial trivial (hR_0 hQ hr k f)
  · rcases (show c = 0 ∨ c = 1 ∨ c = 2 by omega) with rfl | rfl | rfl
    · exact zaft_x rfl (fun q => zW.gr [] rfl rfl rfl (by omega) trivial trivial (hR_t hQ hr k f (by decide +kernel)))
    · exact zaft_x rfl (fun q => zW.gr [] rfl rfl rfl (by omega) trivial trivial (hR_t hQ hr k f (by decide +kernel)))
    · exact zaft_x rfl (fun q => zW.gr [] rfl rfl rfl (by omega) trivial trivial (hR_t hQ hr k f (by decide +kernel)))
theorem h277_ok {v1 v2 : Int} {a1 a2 : Int32} (hd : 20 ≤ d) (h : tfx x z T (I, L, R)) (e1 : a1 = iI v1) (e2 : a2 = iI v2) (h1 : i32 v1) (h2 : i32 v2) (hQ : hR x z (I, L, R) (oSearch T v1 v2) eI Q) : zS 277 d [zr (some x), zi a1, zi a2] (I, L, R) Q := by
  refine zW.gc [] rfl rfl rfl (by omega) trivial ⟨_, rfl, tfx_k0 h⟩ (by decide +kernel) (by decide +kernel) ?_
  refine search_ok (by omega) h e1 e2 h1 h2 (tP_h b_oSearch (fun M' w T' hr k f => ?_) (fun c M' w T' hc hr k f => ?_))
  · exact zW.gr [] rfl rfl rfl (by omega) trivial trivial (hR_0 hQ hr k f)
  · rcases (show c = 0 ∨ c = 1 by omega) with rfl | rfl
    · exact zaft_x rfl (fun q => zW.gr [] rfl rfl rfl (by omega) trivial trivial (hR_t hQ hr k f (by decide +kernel)))
    · exact zaft_x rfl (fun q => zW.gr [] rfl rfl rfl (by omega) trivial trivial (hR_t hQ hr k f (by decide +kernel)))
theorem h278_ok {v1 v2 v3 : Int} {a1 a2 a3 : Int32} (hd : 20 ≤ d) (h : tfx x z T (I, L, R)) (e1 : a1 = iI v1) (e2 : a2 = iI v2) (e3 : a3 = iI v3) (h1 : i32 v1) (h2 : i32 v2) (h3 : i32 v3) (hQ : hR x z (I, L, R) (oSeaAt T v1 v2 v3) eI Q) : zS 278 d [zr (some x), zi a1, zi a2, zi a3] (I, L, R) Q := by
  refine zW.gc [] rfl rfl rfl (by omega) trivial ⟨_, rfl, tfx_k0 h⟩ (by decide +kernel) (by decide +kernel) ?_
  refine searchAt_ok (by omega) h e1 e2 e3 h1 h2 h3 (tP_h b_oSeaAt (fun M' w T' hr k f => ?_) (fun c M' w T' hc hr k f => ?_))
  · exact zW.gr [] rfl rfl rfl (by omega) trivial trivial (hR_0 hQ hr k f)
  · rcases (show c = 0 ∨ c = 1 ∨ c = 2 by omega) with rfl | rfl | rfl
    · exact zaft_x rfl (fun q => zW.gr [] rfl rfl rfl (by omega) trivial trivial (hR_t hQ hr k f (by decide +kernel)))
    · exact zaft_x rfl (fun q => zW.gr [] rfl rfl rfl (by omega) trivial trivial (hR_t hQ hr k f (by decide +kernel)))
    · exact zaft_x rfl (fun q => zW.gr [] rfl rfl rfl (by omega) trivial trivial (hR_t hQ hr k f (by decide +kernel)))
end LHEL
