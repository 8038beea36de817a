/-! open, divide, shut, take, spell, countRuns, ringsUsed. -/
def skR (w : Nat) (I : Nat → Nat → Int32) : List (Nat × Nat × Nat) → Prop
  | [] => True
  | (o, s, m) :: r => I (w + 3) r.length = iI (o : Int) ∧ I (w + 4) r.length = iI (s : Int) ∧ (o = 124 → I (w + 5) r.length = iI (m : Int)) ∧ skR w I r
theorem skR_cg {w : Nat} {I I' : Nat → Nat → Int32} : ∀ {k : List (Nat × Nat × Nat)}, (∀ i, i < k.length → I' (w + 3) i = I (w + 3) i ∧ I' (w + 4) i = I (w + 4) i ∧ I' (w + 5) i = I (w + 5) i) → skR w I k → skR w I' k
  | [], _, _ => trivial
  | (o, s, m) :: r, h, k => by
    obtain ⟨a, b, c⟩ := h r.length (by show _ < r.length + 1; omega)
    refine ⟨a.trans k.1, b.trans k.2.1, fun e => c.trans (k.2.2.1 e), skR_cg (fun i hi => h i (by show _ < r.length + 1; omega)) k.2.2.2⟩
def wR (w : Nat) (I : Nat → Nat → Int32) (st : wSt) : Prop := lR w I st.1 ∧ I w 7 = iI (st.2.1.length : Int) ∧ skR w I st.2.1 ∧ (st.2.2.2.1 = true ∨ st.2.2.2.2 = true → I w 8 = iI (st.2.2.1 : Int)) ∧ I w 9 = bz st.2.2.2.1 ∧ I w 10 = bz st.2.2.2.2
/-- what a spelling writes -/
def wfr (w : Nat) (I I' : Nat → Nat → Int32) : Prop := (∀ b, b ≠ w → ¬ (w + 2 ≤ b ∧ b ≤ w + 5) → I' b = I b) ∧ I' w 5 = I w 5
theorem wfr_rf (w : Nat) (I : Nat → Nat → Int32) : wfr w I I := ⟨fun _ _ _ => rfl, rfl⟩
theorem wfr_tr {w : Nat} {I I1 I2 : Nat → Nat → Int32} (h1 : wfr w I I1) (h2 : wfr w I1 I2) : wfr w I I2 := ⟨fun b x y => (h2.1 b x y).trans (h1.1 b x y), h2.2.trans h1.2⟩
theorem wfr_of {w : Nat} {I I' : Nat → Nat → Int32} (h : lfr w I I') : wfr w I I' := ⟨fun b x y => h.1 b x (by omega), h.2 5 (by decide)⟩
theorem wfr_up {w a k : Nat} {I : Nat → Nat → Int32} {x : Int32} (h : (a = w ∧ k ≠ 5) ∨ (w + 2 ≤ a ∧ a ≤ w + 5)) : wfr w I (upI I a k x) := ⟨fun b p q => upI_row (by omega), upI_ne (by omega)⟩
theorem lR_fr {w : Nat} {I I' : Nat → Nat → Int32} {l : List Nat} (h : lR w I l) (h1 : I' w 6 = I w 6) (h2 : I' (w + 2) = I (w + 2)) : lR w I' l := ⟨h1.trans h.1, by rw [h2]; exact h.2⟩
theorem skR_l {w : Nat} {I I' : Nat → Nat → Int32} {k : List (Nat × Nat × Nat)} (h : lfr w I I') (q : skR w I k) : skR w I' k := skR_cg (fun i _ => ⟨congrFun (h.1 _ (by omega) (by omega)) i, congrFun (h.1 _ (by omega) (by omega)) i, congrFun (h.1 _ (by omega) (by omega)) i⟩) q
section WORD3
variable {d w : Nat} {I : Nat → Nat → Int32} {L : Nat → Nat → Int64} {R : zRt} {Q : zO → zM → Prop}
theorem wRet1 {y c s pc : Nat} {e : zE} {ls : zLs} {x : Int32} {M : zM} (h1 : zops y pc = some e) (h2 : zq e (zret y) [zi x] = some (z01 x, some (zi x))) (hd : 1 ≤ d) (hx : x = iI 1) (hq : Q (.inl (some (zi (iI 1)))) M) : zW y d c s pc ls [zi x] M Q := by
  subst hx
  exact zW.ret h1 h2 hd z01_1 hq
end WORD3
