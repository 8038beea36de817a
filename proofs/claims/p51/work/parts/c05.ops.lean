/-! The class's answers over one puzzle, as the law asks them. -/
abbrev pq (n r : Nat) (tn : Nat → Nat → Nat) (col st : Nat → Nat) : zPz := ((n, r), tn, col, st)
def tq (T : tfT) (ty : List Nat) (w : zPz) : Prop := tTy T = ty ∧ tPn T = 1 ∧ tRn T = 0 ∧ tPz T 0 = w
theorem onP_0 {T : tfT} (h1 : tPn T = 1) (f : Nat → tRes) : onP T 0 f = f 0 := if_neg (fun g => g ⟨by omega, by omega⟩)
theorem onP_1 {T : tfT} (h1 : tPn T ≤ 1) (f : Nat → tRes) : onP T 1 f = (1, 0, T) := if_pos (fun g => by omega)
theorem q_set {T : tfT} {ty : List Nat} {w : zPz} (h : tq T ty w) (w' : zPz) : tq (tSetP T 0 w') ty w' := ⟨h.1, h.2.1, h.2.2.1, by
  show (if (0 : Nat) = 0 then w' else tPz T 0) = w'
  rw [if_pos rfl]⟩
theorem pzF_dF (n k r : Nat) (tn : Nat → Nat → Nat) (st : Nat → Nat) : pzF k (pq n r tn (fun p => p) st) = dF k r tn := rfl
section OPS
variable {T : tfT} {ty : List Nat} {n r : Nat} {tn : Nat → Nat → Nat} {col st : Nat → Nat}
theorem q_order (h : tq T ty (pq n r tn col st)) : oOrder T 0 = (0, ((szG (zG r tn) 10 : Nat) : Int), T) := by
  unfold oOrder
  rw [onP_0 h.2.1, h.2.2.2]
theorem q_order1 (h : tPn T ≤ 1) : oOrder T 1 = (1, 0, T) := onP_1 h _
theorem q_ringB (h : tq T ty (pq n r tn col st)) {s : Int} (hs : ¬ (2 ≤ ty.length ∧ 1 ≤ s ∧ s ≤ (ty.length : Int) - 1)) : oRing T 0 s = (2, 0, T) := by
  unfold oRing
  rw [onP_0 h.2.1, h.1, dc_f.mpr (fun q => hs ⟨q.1, q.2.2.1, by have := q.2.2.2; omega⟩)]
  rfl
theorem q_ringG (h : tq T ty (pq n r tn col st)) {s : Nat} (h2 : 2 ≤ ty.length) (hp : ∀ k, k < ty.length → nth ty k < n) (h1 : 1 ≤ s) (hs : s < ty.length) (hr : r < 4) : oRing T 0 (s : Int) = (0, ((r + 1 : Nat) : Int), tRing T 0 s) ∧ tq (tRing T 0 s) [] (pq n (r + 1) (tnS r tn (rgT ty.length s (nth ty))) col (fun p => p)) := by
  refine ⟨?_, rfl, h.2.1, h.2.2.1, ?_⟩
  · unfold oRing
    rw [onP_0 h.2.1, h.1, dc_t.mpr ⟨h2, by rw [h.2.2.2]; exact hp, by omega, by omega⟩]
    show (if ¬ pzR (tPz T 0) < 4 then (3, 0, T) else (0, ((pzR (tPz T 0) + 1 : Nat) : Int), tRing T 0 s)) = _
    rw [h.2.2.2, if_neg (fun q => q hr)]
  · show (if (0 : Nat) = 0 then pzRg (tPz T 0) (tyT T s) else tPz T 0) = _
    rw [if_pos rfl, h.2.2.2]
    unfold tyT
    rw [h.1]
    rfl
theorem q_orbs (h : tq T ty (pq n r tn col st)) : oOrbs T 0 = (0, ((orbC (zG r tn) n : Nat) : Int), T) := by
  unfold oOrbs
  rw [onP_0 h.2.1, h.2.2.2]
theorem onG_0 (h1 : tPn T = 1) {c : Int} {k : Nat} (hc : (c = 113 ∧ k = 0) ∨ (c = 116 ∧ k = 1)) (f : Nat → Nat → tRes) : onG T 0 c f = f 0 k := by
  unfold onG
  rw [onP_0 h1, if_neg (fun q => q (hc.imp And.left And.left))]
  rcases hc with ⟨rfl, rfl⟩ | ⟨rfl, rfl⟩ <;> rfl
theorem q_god (h : tq T ty (pq n r tn (fun p => p) st)) (h8 : szG (zG r tn) 10 ≤ 800) {c : Int} {k : Nat} (hc : (c = 113 ∧ k = 0) ∨ (c = 116 ∧ k = 1)) : oGod T 0 c = (0, mxd (dF k r tn) (szG (zG r tn) 10), T) := by
  unfold oGod
  rw [onG_0 h.2.1 hc, sml_t (by rw [h.2.2.2]; exact h8), h.2.2.2, pzF_dF]
theorem q_godB (h : tPn T = 1) : oGod T 0 120 = (2, 0, T) := by
  unfold oGod onG
  rw [onP_0 h]
  rfl
theorem q_many (h : tq T ty (pq n r tn (fun p => p) st)) (h8 : szG (zG r tn) 10 ≤ 800) {c : Int} {k : Nat} (hc : (c = 113 ∧ k = 0) ∨ (c = 116 ∧ k = 1)) (v : Int) : oMany T 0 c v = (0, ((ct (fun s => decide (dF k r tn s = v)) (szG (zG r tn) 10) : Nat) : Int), T) := by
  unfold oMany
  rw [onG_0 h.2.1 hc, sml_t (by rw [h.2.2.2]; exact h8), h.2.2.2, pzF_dF]
theorem q_mean (h : tq T ty (pq n r tn (fun p => p) st)) (h8 : szG (zG r tn) 10 ≤ 800) : oMean T 0 113 = (0, smd (dF 0 r tn) (szG (zG r tn) 10), T) := by
  unfold oMean
  rw [onG_0 h.2.1 (k := 0) (Or.inl ⟨rfl, rfl⟩), sml_t (by rw [h.2.2.2]; exact h8), h.2.2.2, pzF_dF]
theorem q_centre (h : tq T ty (pq n r tn col st)) (h8 : szG (zG r tn) 10 ≤ 800) : oCentre T 0 = (0, ((ct (fun j => dc (zCen r tn (stG (zG r tn) j))) (szG (zG r tn) 10) : Nat) : Int), T) := by
  unfold oCentre
  rw [onP_0 h.2.1, h.2.2.2, if_neg (fun q => q h8)]
theorem q_kinds (h : tq T ty (pq n r tn col st)) (h8 : szG (zG r tn) 10 ≤ 800) : oKinds T 0 = (0, ((szG (zG r tn) 10 / ct (zSv r tn col) (szG (zG r tn) 10) : Nat) : Int), T) := by
  unfold oKinds
  rw [onP_0 h.2.1, h.2.2.2, if_neg (fun q => q h8)]
theorem q_toNB (h : tq T ty (pq n r tn col st)) {v : Int} (hv : ¬ (0 ≤ v ∧ v < szG (zG r tn) 10)) : oToNum T 0 v = (2, 0, T) := by
  unfold oToNum
  rw [onP_0 h.2.1, h.2.2.2, if_pos hv]
theorem q_toN (h : tq T ty (pq n r tn col st)) {v : Nat} (hv : v < szG (zG r tn) 10) : oToNum T 0 (v : Int) = (0, ((nst (stG (zG r tn) v) : Nat) : Int), tSetP T 0 (pq n r tn col (stG (zG r tn) v))) := by
  unfold oToNum
  rw [onP_0 h.2.1, h.2.2.2]
  exact if_neg (fun q => q ⟨Int.natCast_nonneg _, Int.ofNat_lt.mpr hv⟩)
theorem q_numb (h : tq T ty (pq n r tn col st)) (hG : zG r tn st) : oNumb T 0 = (0, ((numG (zG r tn) st 10 : Nat) : Int), T) := by
  unfold oNumb
  rw [onP_0 h.2.1, h.2.2.2, dc_t.mpr hG]
  rfl
theorem q_numbB (h : tq T ty (pq n r tn col st)) (hG : ¬ zG r tn st) : oNumb T 0 = (2, 0, T) := by
  unfold oNumb
  rw [onP_0 h.2.1, h.2.2.2, dc_f.mpr hG]
  rfl
theorem q_isin (h : tq T ty (pq n r tn col st)) : oIsIn T 0 = (0, b01 (zG r tn st), T) := by
  unfold oIsIn
  rw [onP_0 h.2.1, h.2.2.2]
theorem q_dist (h : tq T ty (pq n r tn (fun p => p) st)) (h8 : szG (zG r tn) 10 ≤ 800) (hG : zG r tn st) {c : Int} {k : Nat} (hc : (c = 113 ∧ k = 0) ∨ (c = 116 ∧ k = 1)) : oDist T 0 c = (0, dG k r tn st, T) := by
  unfold oDist
  rw [onG_0 h.2.1 hc, sml_t (by rw [h.2.2.2]; exact h8), h.2.2.2, pzF_dF, dc_t.mpr hG]
  rfl
theorem q_distB (h : tq T ty (pq n r tn col st)) (h8 : szG (zG r tn) 10 ≤ 800) (hG : ¬ zG r tn st) : oDist T 0 113 = (4, 0, T) := by
  unfold oDist
  rw [onG_0 h.2.1 (k := 0) (Or.inl ⟨rfl, rfl⟩), sml_t (by rw [h.2.2.2]; exact h8), h.2.2.2, dc_f.mpr hG]
  rfl
theorem q_solved (h : tq T ty (pq n r tn col st)) : oSolved T 0 = (0, b01 (∀ q, q < 10 → col (st q) = col q), T) := by
  unfold oSolved
  rw [onP_0 h.2.1, h.2.2.2]
theorem q_piece (h : tq T ty (pq n r tn col st)) {v : Nat} (hv : v < n) : oPiece T 0 (v : Int) = (0, ((st v : Nat) : Int), T) := by
  unfold oPiece
  rw [onP_0 h.2.1, h.2.2.2]
  exact if_neg (fun q => q ⟨Int.natCast_nonneg _, Int.ofNat_lt.mpr hv⟩)
theorem q_reset (h : tq T ty (pq n r tn col st)) : oReset T 0 = (0, ((nst st : Nat) : Int), tSetP T 0 (pq n r tn col (fun q => q))) := by
  unfold oReset
  rw [onP_0 h.2.1, h.2.2.2]
  rfl
theorem q_scr (h : tq T ty (pq n r tn col st)) {v : Nat} (hv : v ≤ 99999) : oScr T 0 (v : Int) = (0, ((scz v % szG (zG r tn) 10 : Nat) : Int), tSetP T 0 (pq n r tn col (stG (zG r tn) (scz v % szG (zG r tn) 10)))) := by
  unfold oScr
  rw [onP_0 h.2.1, h.2.2.2, if_neg (fun q => q ⟨by omega, by omega⟩)]
  rfl
theorem q_scrB (h : tPn T = 1) : oScr T 0 (-1) = (2, 0, T) := by
  unfold oScr
  rw [onP_0 h]
  rfl
theorem q_swap (h : tq T ty (pq n r tn col st)) (hn : 2 ≤ n) : oSwap T 0 0 1 = (0, (n : Int) - (nst (swf st 0 1) : Int), tSetP T 0 (pq n r tn col (swf st 0 1))) := by
  have h0 : (0 : Int) < (n : Int) := by omega
  have h1 : (1 : Int) < (n : Int) := by omega
  unfold oSwap
  rw [onP_0 h.2.1, h.2.2.2]
  exact if_neg (fun q => q.elim (fun q => q ⟨by omega, h0⟩) (fun q => q ⟨by omega, h1⟩))
theorem q_per (h : tq T ty (pq n r tn col st)) : oPer T 0 = (0, ((perd st : Nat) : Int), T) := by
  unfold oPer
  rw [onP_0 h.2.1, h.2.2.2]
theorem q_col (h : tq T ty (pq n r tn col st)) {u v : Nat} (hu : u < n) (hv : v ≤ 9) : oColour T 0 (u : Int) (v : Int) = (0, ((col u : Nat) : Int), tSetP T 0 (pq n r tn (fu col u v) st)) := by
  unfold oColour
  rw [onP_0 h.2.1, h.2.2.2]
  exact (if_neg (fun q => q ⟨Int.natCast_nonneg _, Int.ofNat_lt.mpr hu⟩)).trans (if_neg (fun q => q ⟨by omega, by omega⟩))
theorem q_turn (h : tq T ty (pq n r tn col st)) {j : Nat} {t : Int} (hj : j < r) (ht : t = 1 ∨ t = -1) {b : Nat} (hb : b = 2 * j + if t < 0 then 1 else 0) : oTurn T 0 (65 + (j : Int)) t = (0, ((ct (fun q => !(st q == st (tn b q))) 10 : Nat) : Int), tSetP T 0 (pq n r tn col (fun q => st (tn b q)))) := by
  unfold oTurn
  have e1 : (65 + (j : Int) - 65).toNat = j := by omega
  have hj1 : 65 + (j : Int) - 65 < (r : Int) := by omega
  rw [onP_0 h.2.1, h.2.2.2]
  refine (if_neg (fun q => q.elim (fun q => q ⟨by omega, hj1⟩) (fun q => q ⟨by omega, by omega⟩))).trans ?_
  rw [e1]
  have e2 : turnT (pq n r tn col st) j t = fun q => st (tn b q) := by
    unfold turnT
    subst hb
    rcases ht with rfl | rfl <;> rfl
  rw [e2]
  rfl
theorem q_sea (h : tq T ty (pq n r tn (fun p => p) st)) {m : Nat} (hm : m ≤ 6) : (∀ w, skF (fun i => srch tn (fun p => p) (2 * r) i st) (m + 1) 0 = some w → oSearch T 0 (m : Int) = (0, ((w.1 : Nat) : Int), T) ∧ ∀ v : Nat, oSeaAt T 0 (m : Int) (v : Int) = if v < w.1 then (0, ((nth w.2 v : Nat) : Int), T) else (3, 0, T)) ∧ (skF (fun i => srch tn (fun p => p) (2 * r) i st) (m + 1) 0 = none → oSearch T 0 (m : Int) = (0, -1, T) ∧ ∀ v : Int, oSeaAt T 0 (m : Int) v = (3, 0, T)) := by
  refine ⟨fun w hw => ⟨?_, fun v => ?_⟩, fun hw => ⟨?_, fun v => ?_⟩⟩
  · unfold oSearch
    rw [onP_0 h.2.1, h.2.2.2, if_neg (fun q => q ⟨by omega, by omega⟩)]
    show (match skF (fun i => srch tn (fun p => p) (2 * r) i st) (m + 1) 0 with | some w => (0, ((w.1 : Nat) : Int), T) | none => (0, -1, T)) = _
    rw [hw]
  · unfold oSeaAt
    rw [onP_0 h.2.1, h.2.2.2, if_neg (fun q => q ⟨by omega, by omega⟩)]
    show (match skF (fun i => srch tn (fun p => p) (2 * r) i st) (m + 1) 0 with | some w => if ¬ (0 ≤ (v : Int) ∧ (v : Int) < w.1) then (3, 0, T) else (0, ((nth w.2 v : Nat) : Int), T) | none => (3, 0, T)) = _
    rw [hw]
    by_cases c : v < w.1
    · rw [if_pos c]
      exact if_neg (fun q => q ⟨by omega, by omega⟩)
    · rw [if_neg c]
      exact if_pos (fun q => c (by omega))
  · unfold oSearch
    rw [onP_0 h.2.1, h.2.2.2, if_neg (fun q => q ⟨by omega, by omega⟩)]
    show (match skF (fun i => srch tn (fun p => p) (2 * r) i st) (m + 1) 0 with | some w => (0, ((w.1 : Nat) : Int), T) | none => (0, -1, T)) = _
    rw [hw]
  · unfold oSeaAt
    rw [onP_0 h.2.1, h.2.2.2, if_neg (fun q => q ⟨by omega, by omega⟩)]
    show (match skF (fun i => srch tn (fun p => p) (2 * r) i st) (m + 1) 0 with | some w => if ¬ (0 ≤ v ∧ v < w.1) then (3, 0, T) else (0, ((nth w.2 v.toNat : Nat) : Int), T) | none => (3, 0, T)) = _
    rw [hw]
end OPS
