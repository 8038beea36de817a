/-! The class's own object: its layout, what it holds. -/
abbrev zPz : Type := (Nat × Nat) × (Nat → Nat → Nat) × (Nat → Nat) × (Nat → Nat)
abbrev pzN (z : zPz) : Nat := z.1.1
abbrev pzR (z : zPz) : Nat := z.1.2
abbrev pzT (z : zPz) : Nat → Nat → Nat := z.2.1
abbrev pzC (z : zPz) : Nat → Nat := z.2.2.1
abbrev pzS (z : zPz) : Nat → Nat := z.2.2.2
abbrev tfT : Type := (List Nat × Nat × (Nat → zPz)) × (List Nat × Nat × (Nat → Nat)) × Nat × (Nat → zRd) × Nat
abbrev tTy (T : tfT) : List Nat := T.1.1
abbrev tPn (T : tfT) : Nat := T.1.2.1
abbrev tPz (T : tfT) : Nat → zPz := T.1.2.2
abbrev tSg (T : tfT) : List Nat := T.2.1.1
abbrev tCn (T : tfT) : Nat := T.2.1.2.1
abbrev tRg (T : tfT) : Nat → Nat := T.2.1.2.2
abbrev tRn (T : tfT) : Nat := T.2.2.1
abbrev tRd (T : tfT) : Nat → zRd := T.2.2.2.1
abbrev tDy (T : tfT) : Nat := T.2.2.2.2
def i32 (v : Int) : Prop := -2147483648 ≤ v ∧ v < 2147483648
/-- what always holds of it -/
def tOK (T : tfT) : Prop := ((tTy T).length ≤ 8 ∧ (∀ i, i < (tTy T).length → nth (tTy T) i < 10) ∧ (∀ i j, i < j → j < (tTy T).length → nth (tTy T) i ≠ nth (tTy T) j)) ∧ (tPn T ≤ 4 ∧ ∀ i, i < tPn T → zOK (pzN (tPz T i)) (pzR (tPz T i)) (pzT (tPz T i)) (pzC (tPz T i)) (pzS (tPz T i)))
  ∧ ((tSg T).length ≤ 30 ∧ ∀ c, c ∈ tSg T → c < 65536) ∧ (tCn T ≤ 12 ∧ ∀ c, c < tCn T → tRg T c ≤ 5) ∧ (tRn T ≤ 8 ∧ ∀ j, j < tRn T → rOK (tRd T j) ∧ ∀ c, tCn T ≤ c → c < 12 → rMa (tRd T j) c = 0) ∧ tDy T ≤ 999
/-- its own seventeen cells -/
def tFix (x : Nat) (R : zRt) : Prop := R.2.1 x = some (6, 0) ∧ R.1 x 0 = some (x + 1) ∧ R.1 x 2 = some (x + 2) ∧ R.1 x 4 = some (x + 3) ∧ R.1 x 5 = some (x + 9) ∧ R.1 x 6 = some (x + 15) ∧ R.1 x 8 = some (x + 16) ∧ R.2.1 (x + 1) = some (20, 8) ∧ R.2.1 (x + 2) = some (27, 4) ∧ WL (x + 3) R ∧ SL (x + 9) R ∧ R.2.1 (x + 15) = some (20, 12) ∧ R.2.1 (x + 16) = some (28, 8)
/-- its puzzles and rounds lie above z, apart from each other -/
def tAp (x z : Nat) (pb : Nat → Nat) (pn : Nat) (rb : Nat → Nat) (rm : Nat) (N : Nat) : Prop := x + 17 ≤ z ∧ z ≤ N ∧ (∀ i, i < pn → z ≤ pb i ∧ pb i + 24 ≤ N ∧ ∀ k, k < i → pb k + 24 ≤ pb i) ∧ (∀ j, j < rm → z ≤ rb j ∧ rb j + 19 ≤ N ∧ ∀ k, k < j → rb k + 19 ≤ rb j) ∧ ∀ i j, i < pn → j < rm → pb i + 24 ≤ rb j ∨ rb j + 19 ≤ pb i
def tLay (x : Nat) (pb : Nat → Nat) (pn : Nat) (rb : Nat → Nat) (rm : Nat) (R : zRt) : Prop := tFix x R ∧ (∀ i, i < pn → R.1 (x + 2) i = some (pb i) ∧ ZL (pb i) R) ∧ ∀ j, j < rm → R.1 (x + 16) j = some (rb j) ∧ RLy (rb j) R
def tHas (x : Nat) (pb rb : Nat → Nat) (I : Nat → Nat → Int32) (L : Nat → Nat → Int64) (T : tfT) : Prop := (I x 1 = iI ((tTy T).length : Int) ∧ hl (I (x + 1)) (tTy T)) ∧ (I x 3 = iI (tPn T : Int) ∧ ∀ i, i < tPn T → zPR (pb i) I L (pzN (tPz T i)) (pzR (tPz T i)) (pzT (tPz T i)) (pzC (tPz T i)) (pzS (tPz T i)))
  ∧ sgR (x + 3) I (tSg T) ∧ (I x 7 = iI (tCn T : Int) ∧ ∀ c, c < tCn T → I (x + 15) c = iI (tRg T c : Int)) ∧ (I x 9 = iI (tRn T : Int) ∧ ∀ j, j < tRn T → rPR (rb j) I (tRd T j)) ∧ I x 10 = iI (tDy T : Int)
def tf (x z : Nat) (pb rb : Nat → Nat) (T : tfT) (M : zM) : Prop := tOK T ∧ tLay x pb (tPn T) rb (tRn T) M.2.2 ∧ tAp x z pb (tPn T) rb (tRn T) M.2.2.2.2 ∧ tHas x pb rb M.1 M.2.1 T
def tfx (x z : Nat) (T : tfT) (M : zM) : Prop := ∃ pb rb, tf x z pb rb T M
/-- its own cells, as its memory says -/
def ownC (x : Nat) (M : zM) (a : Nat) : Prop := (x ≤ a ∧ a < x + 17) ∨ ∃ i b, i < (M.1 x 3).toNatClampNeg ∧ M.2.2.1 (x + 2) i = some b ∧ b ≤ a ∧ a < b + 24
/-- what its methods leave alone: all that is there and not its own; what was not its own doesn't become it -/
def tfr (x _z : Nat) (M M' : zM) : Prop := (∀ a, a < M.2.2.2.2 → ¬ ownC x M a → M'.1 a = M.1 a ∧ M'.2.1 a = M.2.1 a ∧ M'.2.2.1 a = M.2.2.1 a ∧ M'.2.2.2.1 a = M.2.2.2.1 a) ∧ M.2.2.2.2 ≤ M'.2.2.2.2 ∧ ∀ a, a < M.2.2.2.2 → ownC x M' a → ownC x M a
theorem own_pz {x z i a : Nat} {pb rb : Nat → Nat} {T : tfT} {M : zM} (h : tf x z pb rb T M) (hi : i < tPn T) (q1 : pb i ≤ a) (q2 : a < pb i + 24) : ownC x M a := Or.inr ⟨i, pb i, by
  have h4 := h.1.2.1.1
  rw [h.2.2.2.2.1.1, iI_ixN (by omega)]
  exact hi, (h.2.1.2.1 i hi).1, q1, q2⟩
theorem own_out {x z a : Nat} {pb rb : Nat → Nat} {T : tfT} {M : zM} (h : tf x z pb rb T M) (w : ownC x M a) : (x ≤ a ∧ a < x + 17) ∨ ∃ i, i < tPn T ∧ pb i ≤ a ∧ a < pb i + 24 := by
  rcases w with w | ⟨i, b, w1, w2, w3, w4⟩
  · exact Or.inl w
  · have h4 := h.1.2.1.1
    rw [h.2.2.2.2.1.1, iI_ixN (by omega)] at w1
    rw [(h.2.1.2.1 i w1).1] at w2
    cases w2
    exact Or.inr ⟨i, w1, w3, w4⟩
theorem own_cg {x a : Nat} {M M' : zM} (h1 : M'.1 x 3 = M.1 x 3) (h2 : M'.2.2.1 (x + 2) = M.2.2.1 (x + 2)) (w : ownC x M' a) : ownC x M a := by
  unfold ownC at w ⊢
  rw [h1, h2] at w
  exact w
theorem own_cI {x a : Nat} {I I' : Nat → Nat → Int32} {L L' : Nat → Nat → Int64} {R : zRt} (h1 : I' x 3 = I x 3) (w : ownC x (I', L', R) a) : ownC x (I, L, R) a := by
  unfold ownC at w ⊢
  dsimp only at w ⊢
  rw [h1] at w
  exact w
/-- the cells of which it speaks stay as they are -/
def tsm (x z : Nat) (M M' : zM) : Prop := (∀ a, a < M.2.2.2.2 → (x ≤ a ∧ a < x + 17) ∨ z ≤ a → M'.1 a = M.1 a ∧ M'.2.1 a = M.2.1 a ∧ M'.2.2.1 a = M.2.2.1 a ∧ M'.2.2.2.1 a = M.2.2.2.1 a) ∧ M.2.2.2.2 ≤ M'.2.2.2.2
theorem WL_cg {w : Nat} {R R' : zRt} (h : ∀ a, w ≤ a → a < w + 6 → R'.2.1 a = R.2.1 a ∧ R'.1 a = R.1 a) (hW : WL w R) : WL w R' := by
  obtain ⟨k0, p0, p1, p2, p3, p4, k1, k2, k3, k4, k5⟩ := hW
  have e0 := h w (by omega) (by omega)
  refine ⟨by rw [e0.1]; exact k0, by rw [e0.2]; exact p0, by rw [e0.2]; exact p1, by rw [e0.2]; exact p2, by rw [e0.2]; exact p3, by rw [e0.2]; exact p4, ?_, ?_, ?_, ?_, ?_⟩
  · rw [(h _ (by omega) (by omega)).1]
    exact k1
  · rw [(h _ (by omega) (by omega)).1]
    exact k2
  · rw [(h _ (by omega) (by omega)).1]
    exact k3
  · rw [(h _ (by omega) (by omega)).1]
    exact k4
  · rw [(h _ (by omega) (by omega)).1]
    exact k5
theorem SL_cg {s : Nat} {R R' : zRt} (h : ∀ a, s ≤ a → a < s + 6 → R'.2.1 a = R.2.1 a ∧ R'.1 a = R.1 a) (hS : SL s R) : SL s R' := by
  obtain ⟨k0, p0, p1, p2, p3, p4, k1, k2, k3, k4, k5⟩ := hS
  have e0 := h s (by omega) (by omega)
  refine ⟨by rw [e0.1]; exact k0, by rw [e0.2]; exact p0, by rw [e0.2]; exact p1, by rw [e0.2]; exact p2, by rw [e0.2]; exact p3, by rw [e0.2]; exact p4, ?_, ?_, ?_, ?_, ?_⟩
  · rw [(h _ (by omega) (by omega)).1]
    exact k1
  · rw [(h _ (by omega) (by omega)).1]
    exact k2
  · rw [(h _ (by omega) (by omega)).1]
    exact k3
  · rw [(h _ (by omega) (by omega)).1]
    exact k4
  · rw [(h _ (by omega) (by omega)).1]
    exact k5
theorem tFix_cg {x : Nat} {R R' : zRt} (h : ∀ a, x ≤ a → a < x + 17 → R'.2.1 a = R.2.1 a) (h' : ∀ a, x ≤ a → a < x + 17 → a ≠ x + 2 → a ≠ x + 16 → R'.1 a = R.1 a) (hF : tFix x R) : tFix x R' := by
  obtain ⟨k0, p0, p2, p4, p5, p6, p8, k1, k2, hW, hS, k15, k16⟩ := hF
  have e0 := h' x (by omega) (by omega) (by omega) (by omega)
  refine ⟨by rw [h _ (by omega) (by omega)]; exact k0, by rw [e0]; exact p0, by rw [e0]; exact p2, by rw [e0]; exact p4, by rw [e0]; exact p5, by rw [e0]; exact p6, by rw [e0]; exact p8, ?_, ?_, WL_cg (fun a q1 q2 => ⟨h a (by omega) (by omega), h' a (by omega) (by omega) (by omega) (by omega)⟩) hW, SL_cg (fun a q1 q2 => ⟨h a (by omega) (by omega), h' a (by omega) (by omega) (by omega) (by omega)⟩) hS, ?_, ?_⟩
  · rw [h _ (by omega) (by omega)]
    exact k1
  · rw [h _ (by omega) (by omega)]
    exact k2
  · rw [h _ (by omega) (by omega)]
    exact k15
  · rw [h _ (by omega) (by omega)]
    exact k16
theorem tLay_cg {x pn rm : Nat} {pb rb : Nat → Nat} {R R' : zRt} (h0 : ∀ a, x ≤ a → a < x + 17 → R'.2.1 a = R.2.1 a ∧ R'.1 a = R.1 a) (h1 : ∀ i a, i < pn → pb i ≤ a → a < pb i + 24 → R'.2.1 a = R.2.1 a ∧ R'.1 a = R.1 a) (h2 : ∀ j a, j < rm → rb j ≤ a → a < rb j + 19 → R'.2.1 a = R.2.1 a ∧ R'.1 a = R.1 a) (hF : tLay x pb pn rb rm R) : tLay x pb pn rb rm R' := by
  obtain ⟨f, g, k⟩ := hF
  refine ⟨tFix_cg (fun a q1 q2 => (h0 a q1 q2).1) (fun a q1 q2 _ _ => (h0 a q1 q2).2) f, fun i hi => ⟨?_, ZL_cg (h1 i · hi) (g i hi).2⟩, fun j hj => ⟨?_, RLy_cg (h2 j · hj) (k j hj).2⟩⟩
  · rw [(h0 _ (by omega) (by omega)).2]
    exact (g i hi).1
  · rw [(h0 _ (by omega) (by omega)).2]
    exact (k j hj).1
theorem tHas_cg {x : Nat} {pb rb : Nat → Nat} {I I' : Nat → Nat → Int32} {L L' : Nat → Nat → Int64} {T : tfT} (h0 : ∀ a, x ≤ a → a < x + 17 → I' a = I a) (h1 : ∀ i a, i < tPn T → pb i ≤ a → a < pb i + 24 → I' a = I a ∧ L' a = L a) (h2 : ∀ j a, j < tRn T → rb j ≤ a → a < rb j + 19 → I' a = I a) (h : tHas x pb rb I L T) : tHas x pb rb I' L' T := by
  obtain ⟨⟨a1, a2⟩, ⟨b1, b2⟩, c, ⟨d1, d2⟩, ⟨e1, e2⟩, f⟩ := h
  have e0 := h0 x (by omega) (by omega)
  refine ⟨⟨by rw [e0]; exact a1, ?_⟩, ⟨by rw [e0]; exact b1, fun i hi => zPR_fr (b2 i hi) (fun a q1 q2 => (h1 i a hi q1 q2).1) (fun a q1 q2 => (h1 i a hi q1 q2).2)⟩, ⟨c.1, ?_, ?_, c.2.2.2⟩, ⟨by rw [e0]; exact d1, ?_⟩, ⟨by rw [e0]; exact e1, fun j hj => rPR_fr (e2 j hj) (h2 j · hj)⟩, by rw [e0]; exact f⟩
  · rw [h0 _ (by omega) (by omega)]
    exact a2
  · rw [h0 _ (by omega) (by omega)]
    exact c.2.1
  · rw [h0 _ (by omega) (by omega)]
    exact c.2.2.1
  · rw [h0 _ (by omega) (by omega)]
    exact d2
theorem tAp_le {x z pn rm N N' : Nat} {pb rb : Nat → Nat} (h : tAp x z pb pn rb rm N) (hN : N ≤ N') : tAp x z pb pn rb rm N' := ⟨h.1, Nat.le_trans h.2.1 hN, fun i hi => ⟨(h.2.2.1 i hi).1, Nat.le_trans (h.2.2.1 i hi).2.1 hN, (h.2.2.1 i hi).2.2⟩, fun j hj => ⟨(h.2.2.2.1 j hj).1, Nat.le_trans (h.2.2.2.1 j hj).2.1 hN, (h.2.2.2.1 j hj).2.2⟩, h.2.2.2.2⟩
theorem tf_sm {x z : Nat} {pb rb : Nat → Nat} {T : tfT} {M M' : zM} (h : tf x z pb rb T M) (f : tsm x z M M') : tf x z pb rb T M' := by
  obtain ⟨k1, k2, k3, k4⟩ := h
  obtain ⟨f1, f2⟩ := f
  have g0 : ∀ a, x ≤ a → a < x + 17 → _ := fun a q1 q2 => f1 a (by have := k3.1; have := k3.2.1; omega) (Or.inl ⟨q1, q2⟩)
  have g1 : ∀ i a, i < tPn T → pb i ≤ a → a < pb i + 24 → _ := fun i a hi q1 q2 => f1 a (by have := (k3.2.2.1 i hi).2.1; omega) (Or.inr (Nat.le_trans (k3.2.2.1 i hi).1 q1))
  have g2 : ∀ j a, j < tRn T → rb j ≤ a → a < rb j + 19 → _ := fun j a hj q1 q2 => f1 a (by have := (k3.2.2.2.1 j hj).2.1; omega) (Or.inr (Nat.le_trans (k3.2.2.2.1 j hj).1 q1))
  exact ⟨k1, tLay_cg (fun a q1 q2 => ⟨(g0 a q1 q2).2.2.2, (g0 a q1 q2).2.2.1⟩) (fun i a hi q1 q2 => ⟨(g1 i a hi q1 q2).2.2.2, (g1 i a hi q1 q2).2.2.1⟩) (fun j a hj q1 q2 => ⟨(g2 j a hj q1 q2).2.2.2, (g2 j a hj q1 q2).2.2.1⟩) k2, tAp_le k3 f2, tHas_cg (fun a q1 q2 => (g0 a q1 q2).1) (fun i a hi q1 q2 => ⟨(g1 i a hi q1 q2).1, (g1 i a hi q1 q2).2.1⟩) (fun j a hj q1 q2 => (g2 j a hj q1 q2).1) k4⟩
theorem tfr_rf {x z : Nat} {M : zM} : tfr x z M M := ⟨fun _ _ _ => ⟨rfl, rfl, rfl, rfl⟩, Nat.le_refl _, fun _ _ w => w⟩
theorem tfr_tr {x z : Nat} {M M' M'' : zM} (h : tfr x z M M') (k : tfr x z M' M'') : tfr x z M M'' := by
  refine ⟨fun a q1 q2 => ?_, Nat.le_trans h.2.1 k.2.1, fun a q w => h.2.2 a q (k.2.2 a (Nat.lt_of_lt_of_le q h.2.1) w)⟩
  have h1 := h.1 a q1 q2
  have k1 := k.1 a (Nat.lt_of_lt_of_le q1 h.2.1) (fun w => q2 (h.2.2 a q1 w))
  exact ⟨k1.1.trans h1.1, k1.2.1.trans h1.2.1, k1.2.2.1.trans h1.2.2.1, k1.2.2.2.trans h1.2.2.2⟩
theorem tsm_gr {x z N : Nat} {M : zM} (h : M.2.2.2.2 ≤ N) : tsm x z M (zgrow M N) := ⟨fun _ _ _ => ⟨rfl, rfl, rfl, rfl⟩, h⟩
theorem tfr_gr {x z N : Nat} {M : zM} (h : M.2.2.2.2 ≤ N) : tfr x z M (zgrow M N) := ⟨fun _ _ _ => ⟨rfl, rfl, rfl, rfl⟩, h, fun _ _ w => w⟩
/-- a method's answer: its number of throw and 1 or 0, its value, what it leaves -/
abbrev tRes : Type := Nat × Int × tfT
def tP (x z : Nat) (M : zM) (r : tRes) (ex : List Nat) (en : Int → zV) (Q : zO → zM → Prop) : Prop := ∀ M', tfx x z r.2.2 M' → tfr x z M M' → Q (if r.1 = 0 then .inl (some (en r.2.1)) else .inr (nth ex (r.1 - 1))) M'
def eI (v : Int) : zV := zi (iI v)
def eL (v : Int) : zV := zl (iL v)
theorem tP_0 {x z : Nat} {M M' : zM} {r : tRes} {ex : List Nat} {en : Int → zV} {Q : zO → zM → Prop} (h : tP x z M r ex en Q) {v : Int} {T : tfT} (e : r = (0, v, T)) (k : tfx x z T M') (f : tfr x z M M') : Q (.inl (some (en v))) M' := by
  subst e
  exact h M' k f
theorem tP_e {x z c : Nat} {M M' : zM} {r : tRes} {ex : List Nat} {en : Int → zV} {Q : zO → zM → Prop} (h : tP x z M r ex en Q) {v : Int} {T : tfT} (e : r = (c + 1, v, T)) (k : tfx x z T M') (f : tfr x z M M') : Q (.inr (nth ex c)) M' := by
  subst e
  exact h M' k f
/-- .. a throw that leaves all as it was -/
theorem tP_t {x z c N : Nat} {M : zM} {r : tRes} {ex : List Nat} {en : Int → zV} {Q : zO → zM → Prop} (h : tP x z M r ex en Q) {v : Int} {T : tfT} (hT : tfx x z T M) (e : r = (c + 1, v, T)) (hN : zN M ≤ N) : Q (.inr (nth ex c)) (zgrow M N) := by
  obtain ⟨pb, rb, k⟩ := hT
  exact tP_e h e ⟨pb, rb, tf_sm k (tsm_gr hN)⟩ (tfr_gr hN)
