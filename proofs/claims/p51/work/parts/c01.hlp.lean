/-! The law's helpers: what they have in common; how many throws each operation knows. -/
theorem b_oTypeP {T : tfT} {v1 : Int} : (oTypeP T v1).1 ≤ 3 := by
  unfold oTypeP
  first | unfold onG onP sml | unfold onP | skip
  repeat (first | exact Nat.le_of_ble_eq_true rfl | (dsimp only; split) | split)
theorem b_oPuz {T : tfT} {v1 : Int} : (oPuz T v1).1 ≤ 2 := by
  unfold oPuz
  first | unfold onG onP sml | unfold onP | skip
  repeat (first | exact Nat.le_of_ble_eq_true rfl | (dsimp only; split) | split)
theorem b_oRing {T : tfT} {v1 v2 : Int} : (oRing T v1 v2).1 ≤ 3 := by
  unfold oRing
  first | unfold onG onP sml | unfold onP | skip
  repeat (first | exact Nat.le_of_ble_eq_true rfl | (dsimp only; split) | split)
theorem b_oColour {T : tfT} {v1 v2 v3 : Int} : (oColour T v1 v2 v3).1 ≤ 2 := by
  unfold oColour
  first | unfold onG onP sml | unfold onP | skip
  repeat (first | exact Nat.le_of_ble_eq_true rfl | (dsimp only; split) | split)
theorem b_oTurn {T : tfT} {v1 v2 v3 : Int} : (oTurn T v1 v2 v3).1 ≤ 2 := by
  unfold oTurn
  first | unfold onG onP sml | unfold onP | skip
  repeat (first | exact Nat.le_of_ble_eq_true rfl | (dsimp only; split) | split)
theorem b_oPiece {T : tfT} {v1 v2 : Int} : (oPiece T v1 v2).1 ≤ 1 := by
  unfold oPiece
  first | unfold onG onP sml | unfold onP | skip
  repeat (first | exact Nat.le_of_ble_eq_true rfl | (dsimp only; split) | split)
theorem b_oSwap {T : tfT} {v1 v2 v3 : Int} : (oSwap T v1 v2 v3).1 ≤ 2 := by
  unfold oSwap
  first | unfold onG onP sml | unfold onP | skip
  repeat (first | exact Nat.le_of_ble_eq_true rfl | (dsimp only; split) | split)
theorem b_oReset {T : tfT} {v1 : Int} : (oReset T v1).1 ≤ 1 := by
  unfold oReset
  first | unfold onG onP sml | unfold onP | skip
  repeat (first | exact Nat.le_of_ble_eq_true rfl | (dsimp only; split) | split)
theorem b_oOrder {T : tfT} {v1 : Int} : (oOrder T v1).1 ≤ 1 := by
  unfold oOrder
  first | unfold onG onP sml | unfold onP | skip
  repeat (first | exact Nat.le_of_ble_eq_true rfl | (dsimp only; split) | split)
theorem b_oCentre {T : tfT} {v1 : Int} : (oCentre T v1).1 ≤ 2 := by
  unfold oCentre
  first | unfold onG onP sml | unfold onP | skip
  repeat (first | exact Nat.le_of_ble_eq_true rfl | (dsimp only; split) | split)
theorem b_oKinds {T : tfT} {v1 : Int} : (oKinds T v1).1 ≤ 2 := by
  unfold oKinds
  first | unfold onG onP sml | unfold onP | skip
  repeat (first | exact Nat.le_of_ble_eq_true rfl | (dsimp only; split) | split)
theorem b_oOrbs {T : tfT} {v1 : Int} : (oOrbs T v1).1 ≤ 1 := by
  unfold oOrbs
  first | unfold onG onP sml | unfold onP | skip
  repeat (first | exact Nat.le_of_ble_eq_true rfl | (dsimp only; split) | split)
theorem b_oPer {T : tfT} {v1 : Int} : (oPer T v1).1 ≤ 1 := by
  unfold oPer
  first | unfold onG onP sml | unfold onP | skip
  repeat (first | exact Nat.le_of_ble_eq_true rfl | (dsimp only; split) | split)
theorem b_oNumb {T : tfT} {v1 : Int} : (oNumb T v1).1 ≤ 2 := by
  unfold oNumb
  first | unfold onG onP sml | unfold onP | skip
  repeat (first | exact Nat.le_of_ble_eq_true rfl | (dsimp only; split) | split)
theorem b_oToNum {T : tfT} {v1 v2 : Int} : (oToNum T v1 v2).1 ≤ 2 := by
  unfold oToNum
  first | unfold onG onP sml | unfold onP | skip
  repeat (first | exact Nat.le_of_ble_eq_true rfl | (dsimp only; split) | split)
theorem b_oScr {T : tfT} {v1 v2 : Int} : (oScr T v1 v2).1 ≤ 2 := by
  unfold oScr
  first | unfold onG onP sml | unfold onP | skip
  repeat (first | exact Nat.le_of_ble_eq_true rfl | (dsimp only; split) | split)
theorem b_oDist {T : tfT} {v1 v2 : Int} : (oDist T v1 v2).1 ≤ 4 := by
  unfold oDist
  first | unfold onG onP sml | unfold onP | skip
  repeat (first | exact Nat.le_of_ble_eq_true rfl | (dsimp only; split) | split)
theorem b_oGod {T : tfT} {v1 v2 : Int} : (oGod T v1 v2).1 ≤ 3 := by
  unfold oGod
  first | unfold onG onP sml | unfold onP | skip
  repeat (first | exact Nat.le_of_ble_eq_true rfl | (dsimp only; split) | split)
theorem b_oMany {T : tfT} {v1 v2 v3 : Int} : (oMany T v1 v2 v3).1 ≤ 3 := by
  unfold oMany
  first | unfold onG onP sml | unfold onP | skip
  repeat (first | exact Nat.le_of_ble_eq_true rfl | (dsimp only; split) | split)
theorem b_oSearch {T : tfT} {v1 v2 : Int} : (oSearch T v1 v2).1 ≤ 2 := by
  unfold oSearch
  first | unfold onG onP sml | unfold onP | skip
  repeat (first | exact Nat.le_of_ble_eq_true rfl | (dsimp only; split) | split)
theorem b_oSeaAt {T : tfT} {v1 v2 v3 : Int} : (oSeaAt T v1 v2 v3).1 ≤ 3 := by
  unfold oSeaAt
  first | unfold onG onP sml | unfold onP | skip
  repeat (first | exact Nat.le_of_ble_eq_true rfl | (dsimp only; split) | split)
/-- a helper's answer: the value, or a number that tells the throw -/
def hR (x z : Nat) (M : zM) (r : tRes) (en : Int → zV) (Q : zO → zM → Prop) : Prop := ∀ M', tfx x z r.2.2 M' → tfr x z M M' → Q (.inl (some (en (if r.1 = 0 then r.2.1 else -900000 - (r.1 : Int))))) M'
theorem hR_0 {x z : Nat} {M M' : zM} {r : tRes} {en : Int → zV} {Q : zO → zM → Prop} {w : Int} {T' : tfT} (h : hR x z M r en Q) (e : r = (0, w, T')) (k : tfx x z T' M') (f : tfr x z M M') : Q (.inl (some (en w))) M' := by
  subst e
  exact h M' k f
theorem hR_t {x z c : Nat} {M M' : zM} {r : tRes} {en : Int → zV} {Q : zO → zM → Prop} {w : Int} {T' : tfT} {v : zV} (h : hR x z M r en Q) (e : r = (c + 1, w, T')) (k : tfx x z T' M') (f : tfr x z M M') (ev : v = en (-900000 - ((c + 1 : Nat) : Int))) : Q (.inl (some v)) M' := by
  subst e; subst ev
  exact h M' k f
theorem tP_h {x z n : Nat} {M : zM} {r : tRes} {ex : List Nat} {en : Int → zV} {Q : zO → zM → Prop} (hb : r.1 ≤ n) (h0 : ∀ M' w T', r = (0, w, T') → tfx x z T' M' → tfr x z M M' → Q (.inl (some (en w))) M') (h1 : ∀ c M' w T', c < n → r = (c + 1, w, T') → tfx x z T' M' → tfr x z M M' → Q (.inr (nth ex c)) M') : tP x z M r ex en Q := by
  obtain ⟨k, w, T'⟩ := r
  intro M' q1 q2
  cases k with
  | zero => exact h0 M' w T' rfl q1 q2
  | succ c => exact h1 c M' w T' hb rfl q1 q2
theorem zaft_x {y d c s pc nxt x h : Nat} {ls : zLs} {st : List zV} {M : zM} {Q : zO → zM → Prop} (e : zhand pc x (zhs y) = some h) (k : ∀ q, zW y d c s h ls [zr (some q)] M Q) : zaft y d c s pc nxt ls st Q (.inr x) M := by
  unfold zaft
  dsimp only
  rw [e]
  exact k
theorem i32_16 {c : Int} (h1 : 0 ≤ c) (h2 : c < 65536) : i32 c := ⟨by omega, by omega⟩
theorem tfx_k0 {x z : Nat} {T : tfT} {I : Nat → Nat → Int32} {L : Nat → Nat → Int64} {R : zRt} (h : tfx x z T (I, L, R)) : R.2.1 x = some (6, 0) := by
  obtain ⟨pb, rb, k⟩ := h
  exact tf_k0 k
