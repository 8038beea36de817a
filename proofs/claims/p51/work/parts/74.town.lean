/-! The class's own rows. -/
section TOWN
variable {d x z : Nat} {pb rb : Nat → Nat} {T : tfT} {I : Nat → Nat → Int32} {L : Nat → Nat → Int64} {R : zRt} {Q : zO → zM → Prop}
theorem tf_slf {I' : Nat → Nat → Int32} {ty : List Nat} {u : List Nat × Nat × (Nat → Nat)} {dy : Nat} (h : tf x z pb rb T (I, L, R)) (f : ∀ a, ¬ (x ≤ a ∧ a < x + 17) → I' a = I a) (hO : tOK ((ty, T.1.2), u, T.2.2.1, T.2.2.2.1, dy)) (h1 : I' x 1 = iI (ty.length : Int) ∧ hl (I' (x + 1)) ty) (h3 : I' x 3 = I x 3) (hs : sgR (x + 3) I' u.1) (h7 : I' x 7 = iI (u.2.1 : Int) ∧ ∀ c, c < u.2.1 → I' (x + 15) c = iI (u.2.2 c : Int)) (h9 : I' x 9 = I x 9) (h10 : I' x 10 = iI (dy : Int)) : tf x z pb rb ((ty, T.1.2), u, T.2.2.1, T.2.2.2.1, dy) (I', L, R) ∧ tfr x z (I, L, R) (I', L, R) := by
  obtain ⟨k1, k2, k3, ⟨a1, a2⟩, ⟨b1, b2⟩, c, ⟨d1, d2⟩, ⟨e1, e2⟩, g⟩ := h
  have k3' := k3
  obtain ⟨l1, l2, l3, l4, l5⟩ := k3'
  refine ⟨⟨hO, k2, k3, h1, ⟨h3.trans b1, fun k hk => zPR_fr (b2 k hk) (fun a q1 q2 => f a (by have := (l3 k hk).1; omega)) (fun a q1 q2 => rfl)⟩, hs, h7, ⟨h9.trans e1, fun j hj => rPR_fr (e2 j hj) (fun a q1 q2 => f a (by have := (l4 j hj).1; omega))⟩, h10⟩, ⟨fun a q1 q2 => ⟨f a (fun w => q2 (Or.inl w)), rfl, rfl, rfl⟩, Nat.le_refl _, fun a _ w => own_cI h3 w⟩⟩
def oWipeP (T : tfT) : tRes := (0, ((tTy T).length : Int), (([], T.1.2), T.2.1, T.2.2.1, T.2.2.2.1, T.2.2.2.2))
theorem own_ok (h : tf x z pb rb T (I, L, R)) : (I x 1 = iI ((tTy T).length : Int) ∧ hl (I (x + 1)) (tTy T)) ∧ (I x 7 = iI (tCn T : Int) ∧ ∀ c, c < tCn T → I (x + 15) c = iI (tRg T c : Int)) ∧ (I (x + 3) 5 = iI ((tSg T).length : Int) ∧ hl (I (x + 3 + 1)) (tSg T)) ∧ I x 10 = iI (tDy T : Int) := ⟨h.2.2.2.1, h.2.2.2.2.2.2.1, ⟨h.2.2.2.2.2.1.2.1, h.2.2.2.2.2.1.2.2.1⟩, h.2.2.2.2.2.2.2.2⟩
def oWipe (T : tfT) : tRes := (0, ((tSg T).length : Int), (T.1, ([], T.2.1.2), T.2.2.1, T.2.2.2.1, T.2.2.2.2))
def oComp (T : tfT) (v : Int) : tRes := if ¬ (0 ≤ v ∧ v ≤ 5) then (1, 0, T) else if ¬ tCn T < 12 then (2, 0, T) else (0, (tCn T : Int), (T.1, (tSg T, tCn T + 1, fun c => if c = tCn T then v.toNat else tRg T c), T.2.2.1, T.2.2.2.1, T.2.2.2.2))
end TOWN
