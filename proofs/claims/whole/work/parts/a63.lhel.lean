/-! The law's helpers: what they have in common; how many throws each operation knows. -/
theorem b_oTypeP {T : tfT} {v1 : Int} : (oTypeP T v1).1 ≤ 3 := by
  unfold oTypeP
  first | unfold onC onR | unfold onG onP sml | unfold onP | unfold onR | skip
  repeat (first | exact Nat.le_of_ble_eq_true rfl | (dsimp only; split) | split)
theorem b_oPuz {T : tfT} {v1 : Int} : (oPuz T v1).1 ≤ 2 := by
  unfold oPuz
  first | unfold onC onR | unfold onG onP sml | unfold onP | unfold onR | skip
  repeat (first | exact Nat.le_of_ble_eq_true rfl | (dsimp only; split) | split)
theorem b_oRing {T : tfT} {v1 v2 : Int} : (oRing T v1 v2).1 ≤ 3 := by
  unfold oRing
  first | unfold onC onR | unfold onG onP sml | unfold onP | unfold onR | skip
  repeat (first | exact Nat.le_of_ble_eq_true rfl | (dsimp only; split) | split)
theorem b_oColour {T : tfT} {v1 v2 v3 : Int} : (oColour T v1 v2 v3).1 ≤ 2 := by
  unfold oColour
  first | unfold onC onR | unfold onG onP sml | unfold onP | unfold onR | skip
  repeat (first | exact Nat.le_of_ble_eq_true rfl | (dsimp only; split) | split)
theorem b_oTurn {T : tfT} {v1 v2 v3 : Int} : (oTurn T v1 v2 v3).1 ≤ 2 := by
  unfold oTurn
  first | unfold onC onR | unfold onG onP sml | unfold onP | unfold onR | skip
  repeat (first | exact Nat.le_of_ble_eq_true rfl | (dsimp only; split) | split)
theorem b_oPiece {T : tfT} {v1 v2 : Int} : (oPiece T v1 v2).1 ≤ 1 := by
  unfold oPiece
  first | unfold onC onR | unfold onG onP sml | unfold onP | unfold onR | skip
  repeat (first | exact Nat.le_of_ble_eq_true rfl | (dsimp only; split) | split)
theorem b_oSwap {T : tfT} {v1 v2 v3 : Int} : (oSwap T v1 v2 v3).1 ≤ 2 := by
  unfold oSwap
  first | unfold onC onR | unfold onG onP sml | unfold onP | unfold onR | skip
  repeat (first | exact Nat.le_of_ble_eq_true rfl | (dsimp only; split) | split)
theorem b_oReset {T : tfT} {v1 : Int} : (oReset T v1).1 ≤ 1 := by
  unfold oReset
  first | unfold onC onR | unfold onG onP sml | unfold onP | unfold onR | skip
  repeat (first | exact Nat.le_of_ble_eq_true rfl | (dsimp only; split) | split)
theorem b_oSolved {T : tfT} {v1 : Int} : (oSolved T v1).1 ≤ 1 := by
  unfold oSolved
  first | unfold onC onR | unfold onG onP sml | unfold onP | unfold onR | skip
  repeat (first | exact Nat.le_of_ble_eq_true rfl | (dsimp only; split) | split)
theorem b_oOrder {T : tfT} {v1 : Int} : (oOrder T v1).1 ≤ 1 := by
  unfold oOrder
  first | unfold onC onR | unfold onG onP sml | unfold onP | unfold onR | skip
  repeat (first | exact Nat.le_of_ble_eq_true rfl | (dsimp only; split) | split)
theorem b_oIsIn {T : tfT} {v1 : Int} : (oIsIn T v1).1 ≤ 1 := by
  unfold oIsIn
  first | unfold onC onR | unfold onG onP sml | unfold onP | unfold onR | skip
  repeat (first | exact Nat.le_of_ble_eq_true rfl | (dsimp only; split) | split)
theorem b_oCentre {T : tfT} {v1 : Int} : (oCentre T v1).1 ≤ 2 := by
  unfold oCentre
  first | unfold onC onR | unfold onG onP sml | unfold onP | unfold onR | skip
  repeat (first | exact Nat.le_of_ble_eq_true rfl | (dsimp only; split) | split)
theorem b_oKinds {T : tfT} {v1 : Int} : (oKinds T v1).1 ≤ 2 := by
  unfold oKinds
  first | unfold onC onR | unfold onG onP sml | unfold onP | unfold onR | skip
  repeat (first | exact Nat.le_of_ble_eq_true rfl | (dsimp only; split) | split)
theorem b_oOdd {T : tfT} {v1 : Int} : (oOdd T v1).1 ≤ 1 := by
  unfold oOdd
  first | unfold onC onR | unfold onG onP sml | unfold onP | unfold onR | skip
  repeat (first | exact Nat.le_of_ble_eq_true rfl | (dsimp only; split) | split)
theorem b_oOrbs {T : tfT} {v1 : Int} : (oOrbs T v1).1 ≤ 1 := by
  unfold oOrbs
  first | unfold onC onR | unfold onG onP sml | unfold onP | unfold onR | skip
  repeat (first | exact Nat.le_of_ble_eq_true rfl | (dsimp only; split) | split)
theorem b_oPer {T : tfT} {v1 : Int} : (oPer T v1).1 ≤ 1 := by
  unfold oPer
  first | unfold onC onR | unfold onG onP sml | unfold onP | unfold onR | skip
  repeat (first | exact Nat.le_of_ble_eq_true rfl | (dsimp only; split) | split)
theorem b_oNumb {T : tfT} {v1 : Int} : (oNumb T v1).1 ≤ 2 := by
  unfold oNumb
  first | unfold onC onR | unfold onG onP sml | unfold onP | unfold onR | skip
  repeat (first | exact Nat.le_of_ble_eq_true rfl | (dsimp only; split) | split)
theorem b_oToNum {T : tfT} {v1 v2 : Int} : (oToNum T v1 v2).1 ≤ 2 := by
  unfold oToNum
  first | unfold onC onR | unfold onG onP sml | unfold onP | unfold onR | skip
  repeat (first | exact Nat.le_of_ble_eq_true rfl | (dsimp only; split) | split)
theorem b_oScr {T : tfT} {v1 v2 : Int} : (oScr T v1 v2).1 ≤ 2 := by
  unfold oScr
  first | unfold onC onR | unfold onG onP sml | unfold onP | unfold onR | skip
  repeat (first | exact Nat.le_of_ble_eq_true rfl | (dsimp only; split) | split)
theorem b_oDist {T : tfT} {v1 v2 : Int} : (oDist T v1 v2).1 ≤ 4 := by
  unfold oDist
  first | unfold onC onR | unfold onG onP sml | unfold onP | unfold onR | skip
  repeat (first | exact Nat.le_of_ble_eq_true rfl | (dsimp only; split) | split)
theorem b_oGod {T : tfT} {v1 v2 : Int} : (oGod T v1 v2).1 ≤ 3 := by
  unfold oGod
  first | unfold onC onR | unfold onG onP sml | unfold onP | unfold onR | skip
  repeat (first | exact Nat.le_of_ble_eq_true rfl | (dsimp only; split) | split)
theorem b_oMany {T : tfT} {v1 v2 v3 : Int} : (oMany T v1 v2 v3).1 ≤ 3 := by
  unfold oMany
  first | unfold onC onR | unfold onG onP sml | unfold onP | unfold onR | skip
  repeat (first | exact Nat.le_of_ble_eq_true rfl | (dsimp only; split) | split)
theorem b_oSearch {T : tfT} {v1 v2 : Int} : (oSearch T v1 v2).1 ≤ 2 := by
  unfold oSearch
  first | unfold onC onR | unfold onG onP sml | unfold onP | unfold onR | skip
  repeat (first | exact Nat.le_of_ble_eq_true rfl | (dsimp only; split) | split)
theorem b_oSeaAt {T : tfT} {v1 v2 v3 : Int} : (oSeaAt T v1 v2 v3).1 ≤ 3 := by
  unfold oSeaAt
  first | unfold onC onR | unfold onG onP sml | unfold onP | unfold onR | skip
  repeat (first | exact Nat.le_of_ble_eq_true rfl | (dsimp only; split) | split)
theorem b_oType {T : tfT} {v1 : Int} : (oType T v1).1 ≤ 2 := by
  unfold oType
  first | unfold onC onR | unfold onG onP sml | unfold onP | unfold onR | skip
  repeat (first | exact Nat.le_of_ble_eq_true rfl | (dsimp only; split) | split)
theorem b_oLength {T : tfT} {v1 : Int} : (oLength T v1).1 ≤ 2 := by
  unfold oLength
  first | unfold onC onR | unfold onG onP sml | unfold onP | unfold onR | skip
  repeat (first | exact Nat.le_of_ble_eq_true rfl | (dsimp only; split) | split)
theorem b_oTurnAt {T : tfT} {v1 : Int} : (oTurnAt T v1).1 ≤ 2 := by
  unfold oTurnAt
  first | unfold onC onR | unfold onG onP sml | unfold onP | unfold onR | skip
  repeat (first | exact Nat.le_of_ble_eq_true rfl | (dsimp only; split) | split)
theorem b_oApply {T : tfT} {v1 : Int} : (oApply T v1).1 ≤ 2 := by
  unfold oApply
  first | unfold onC onR | unfold onG onP sml | unfold onP | unfold onR | skip
  repeat (first | exact Nat.le_of_ble_eq_true rfl | (dsimp only; split) | split)
theorem b_oComp {T : tfT} {v1 : Int} : (oComp T v1).1 ≤ 2 := by
  unfold oComp
  first | unfold onC onR | unfold onG onP sml | unfold onP | unfold onR | skip
  repeat (first | exact Nat.le_of_ble_eq_true rfl | (dsimp only; split) | split)
theorem b_oRnd {T : tfT} {v1 v2 v3 : Int} : (oRnd T v1 v2 v3).1 ≤ 2 := by
  unfold oRnd
  first | unfold onC onR | unfold onG onP sml | unfold onP | unfold onR | skip
  repeat (first | exact Nat.le_of_ble_eq_true rfl | (dsimp only; split) | split)
theorem b_oAtt {T : tfT} {v1 v2 v3 v4 v5 v6 : Int} : (oAtt T v1 v2 v3 v4 v5 v6).1 ≤ 3 := by
  unfold oAtt
  first | unfold onC onR | unfold onG onP sml | unfold onP | unfold onR | skip
  repeat (first | exact Nat.le_of_ble_eq_true rfl | (dsimp only; split) | split)
theorem b_oMov {T : tfT} {v1 v2 v3 : Int} : (oMov T v1 v2 v3).1 ≤ 2 := by
  unfold oMov
  first | unfold onC onR | unfold onG onP sml | unfold onP | unfold onR | skip
  repeat (first | exact Nat.le_of_ble_eq_true rfl | (dsimp only; split) | split)
theorem b_oSev {T : tfT} {v1 v2 v3 v4 v5 : Int} : (oSev T v1 v2 v3 v4 v5).1 ≤ 3 := by
  unfold oSev
  first | unfold onC onR | unfold onG onP sml | unfold onP | unfold onR | skip
  repeat (first | exact Nat.le_of_ble_eq_true rfl | (dsimp only; split) | split)
theorem b_oAtts {T : tfT} {v1 v2 : Int} : (oAtts T v1 v2).1 ≤ 1 := by
  unfold oAtts
  first | unfold onC onR | unfold onG onP sml | unfold onP | unfold onR | skip
  repeat (first | exact Nat.le_of_ble_eq_true rfl | (dsimp only; split) | split)
theorem b_oBest {T : tfT} {v1 v2 : Int} : (oBest T v1 v2).1 ≤ 2 := by
  unfold oBest
  first | unfold onC onR | unfold onG onP sml | unfold onP | unfold onR | skip
  repeat (first | exact Nat.le_of_ble_eq_true rfl | (dsimp only; split) | split)
theorem b_oAver {T : tfT} {v1 v2 : Int} : (oAver T v1 v2).1 ≤ 3 := by
  unfold oAver
  first | unfold onC onR | unfold onG onP sml | unfold onP | unfold onR | skip
  repeat (first | exact Nat.le_of_ble_eq_true rfl | (dsimp only; split) | split)
theorem b_oRank {T : tfT} {v1 v2 : Int} : (oRank T v1 v2).1 ≤ 2 := by
  unfold oRank
  first | unfold onC onR | unfold onG onP sml | unfold onP | unfold onR | skip
  repeat (first | exact Nat.le_of_ble_eq_true rfl | (dsimp only; split) | split)
theorem b_oAdv {T : tfT} {v1 v2 v3 : Int} : (oAdv T v1 v2 v3).1 ≤ 2 := by
  unfold oAdv
  first | unfold onC onR | unfold onG onP sml | unfold onP | unfold onR | skip
  repeat (first | exact Nat.le_of_ble_eq_true rfl | (dsimp only; split) | split)
theorem b_oClose {T : tfT} {v1 v2 : Int} : (oClose T v1 v2).1 ≤ 3 := by
  unfold oClose
  first | unfold onC onR | unfold onG onP sml | unfold onP | unfold onR | skip
  repeat (first | exact Nat.le_of_ble_eq_true rfl | (dsimp only; split) | split)
theorem b_oUndo {T : tfT} {v1 : Int} : (oUndo T v1).1 ≤ 2 := by
  unfold oUndo
  first | unfold onC onR | unfold onG onP sml | unfold onP | unfold onR | skip
  repeat (first | exact Nat.le_of_ble_eq_true rfl | (dsimp only; split) | split)
theorem b_oIsRec {T : tfT} {v1 v2 v3 : Int} : (oIsRec T v1 v2 v3).1 ≤ 1 := by
  unfold oIsRec
  first | unfold onC onR | unfold onG onP sml | unfold onP | unfold onR | skip
  repeat (first | exact Nat.le_of_ble_eq_true rfl | (dsimp only; split) | split)
theorem b_oShare {T : tfT} : (oShare T).1 ≤ 1 := by
  unfold oShare
  first | unfold onC onR | unfold onG onP sml | unfold onP | unfold onR | skip
  repeat (first | exact Nat.le_of_ble_eq_true rfl | (dsimp only; split) | split)
theorem b_oMean {T : tfT} {v1 v2 : Int} : (oMean T v1 v2).1 ≤ 3 := by
  unfold oMean
  first | unfold onC onR | unfold onG onP sml | unfold onP | unfold onR | skip
  repeat (first | exact Nat.le_of_ble_eq_true rfl | (dsimp only; split) | split)
/-- what a helper leaves alone: all but the object's cells, the row of the answer -/
def hfr (x z o : Nat) (M M' : zM) : Prop := (∀ a, a < z → ¬ (x ≤ a ∧ a < x + 17) → M'.1 a = M.1 a ∧ (a ≠ o → M'.2.1 a = M.2.1 a) ∧ M'.2.2.1 a = M.2.2.1 a ∧ M'.2.2.2.1 a = M.2.2.2.1 a) ∧ M.2.2.2.2 ≤ M'.2.2.2.2
theorem tfr_h {x z o : Nat} {M M' : zM} (h : tfr x z M M') : hfr x z o M M' := ⟨fun a q1 q2 => ⟨(h.1 a q1 q2).1, fun _ => (h.1 a q1 q2).2.1, (h.1 a q1 q2).2.2.1, (h.1 a q1 q2).2.2.2⟩, h.2⟩
/-- the row of the answer -/
def oRo (x z o t : Nat) (R : zRt) : Prop := R.2.1 o = some (t, 1) ∧ o < z ∧ ¬ (x ≤ o ∧ o < x + 17)
def hP (x z o : Nat) (M : zM) (r : tRes) (cv : Int → Int64) (Q : zO → zM → Prop) : Prop := ∀ M', tfx x z r.2.2 M' → hfr x z o M M' → (r.1 = 0 → M'.2.1 o 0 = cv r.2.1) → Q (.inl (some (zi (iI (r.1 : Int))))) M'
def cI (v : Int) : Int64 := (iI v).toInt64
def cB (v : Int) : Int64 := if iI v = 0 then lN 0 else lN 1
def cL (v : Int) : Int64 := iL v
theorem oRo_K {x z o t : Nat} {M : zM} {I' : Nat → Nat → Int32} {L' : Nat → Nat → Int64} {R' : zRt} (ho : oRo x z o t M.2.2) (f : tfr x z M (I', L', R')) : R'.2.1 o = some (t, 1) := ((f.1 o ho.2.1 ho.2.2).2.2.2).trans ho.1
theorem oRo_ar {o t : Nat} {I' : Nat → Nat → Int32} {L' : Nat → Nat → Int64} {R' : zRt} (h : R'.2.1 o = some (t, 1)) : zar (I', L', R') (some o) t (zcn 0) := ⟨o, 1, rfl, h, by rw [zcn_I]; exact (iI_vp (by decide) (by decide)).mpr ⟨by decide, by decide⟩⟩
theorem hP_0 {x z o t : Nat} {M : zM} {I' : Nat → Nat → Int32} {L' : Nat → Nat → Int64} {R' : zRt} {r : tRes} {cv : Int → Int64} {Q : zO → zM → Prop} {w : Int} {T' : tfT} {v : Int64} (h : hP x z o M r cv Q) (ho : oRo x z o t M.2.2) (e : r = (0, w, T')) (k : tfx x z T' (I', L', R')) (f : tfr x z M (I', L', R')) (ev : v = cv w) : Q (.inl (some (zi (zcn 0)))) (zwL (I', L', R') (zg (some o)) (zcn 0).toNatClampNeg v) := by
  subst e; subst ev
  rw [show (zcn 0).toNatClampNeg = 0 from by decide, zcn_I]
  obtain ⟨_, h2, h3⟩ := ho
  refine h _ ?_ ⟨fun a q1 q2 => ⟨(f.1 a q1 q2).1, fun q3 => ?_, (f.1 a q1 q2).2.2.1, (f.1 a q1 q2).2.2.2⟩, f.2⟩ (fun _ => upL_same _ _ _ _)
  · obtain ⟨pb, rb, k⟩ := k
    refine ⟨pb, rb, tf_sm k ⟨fun a q1 q2 => ⟨rfl, upL_row ?_, rfl, rfl⟩, Nat.le_refl _⟩⟩
    show a ≠ o
    omega
  · exact (upL_row q3).trans (f.1 a q1 q2).2.1
theorem hP_t {x z o c : Nat} {M M' : zM} {r : tRes} {cv : Int → Int64} {Q : zO → zM → Prop} {w : Int} {T' : tfT} {v : Int32} (h : hP x z o M r cv Q) (e : r = (c + 1, w, T')) (k : tfx x z T' M') (f : tfr x z M M') (ev : v = iI ((c + 1 : Nat) : Int)) : Q (.inl (some (zi v))) M' := by
  subst e; subst ev
  exact h M' k (tfr_h f) (fun q => absurd q (Nat.succ_ne_zero c))
theorem tP_h {x z n : Nat} {M : zM} {r : tRes} {ex : List Nat} {en : Int → zV} {Q : zO → zM → Prop} (hb : r.1 ≤ n) (h0 : ∀ M' w T', r = (0, w, T') → tfx x z T' M' → tfr x z M M' → Q (.inl (some (en w))) M') (h1 : ∀ c M' w T', c < n → r = (c + 1, w, T') → tfx x z T' M' → tfr x z M M' → Q (.inr (nth ex c)) M') : tP x z M r ex en Q := by
  obtain ⟨k, w, T'⟩ := r
  intro M' q1 q2
  cases k with
  | zero => exact h0 M' w T' rfl q1 q2
  | succ c => exact h1 c M' w T' hb rfl q1 q2
theorem zaft_x {y d c s pc nxt x h : Nat} {ls : zLs} {st : List zV} {M : zM} {Q : zO → zM → Prop} (e : zhand pc x (zhs y) = some h) (k : ∀ q, zW y d c s h ls [zr (some q)] M Q) : zaft y d c s pc nxt ls st Q (.inr x) M := by
  unfold zaft
  dsimp only
  rw [e]
  exact k
theorem i32_16 {c : Int} (h1 : 0 ≤ c) (h2 : c < 65536) : i32 c := ⟨by omega, by omega⟩
theorem tfx_k0 {x z : Nat} {T : tfT} {I : Nat → Nat → Int32} {L : Nat → Nat → Int64} {R : zRt} (h : tfx x z T (I, L, R)) : R.2.1 x = some (6, 0) := by
  obtain ⟨pb, rb, k⟩ := h
  exact tf_k0 k
