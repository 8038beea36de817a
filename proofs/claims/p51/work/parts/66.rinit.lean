/-! A round is made. -/
def wNew (fm li cu : Nat) : zRd := ((fm, li, cu), (fun _ => 0), (fun _ _ => 0), (fun _ => 0), (fun _ => false), (fun _ => 0), (fun _ => 0), false, false, 0)
theorem wNew_OK {fm li cu : Nat} (h : fm = 53 ∨ fm = 51 ∨ fm = 98 ∨ fm = 102 ∨ fm = 109) (h1 : li ≤ 999999) (h2 : cu ≤ 59999) : rOK (wNew fm li cu) := ⟨h, h1, h2, Nat.zero_le _, fun c _ => ⟨Nat.zero_le _, fun k hk => absurd hk (Nat.not_lt_zero k), Nat.zero_le _, Nat.zero_le _, Nat.zero_le _, fun q => by cases q⟩⟩
theorem RLy_cg {b : Nat} {R R' : zRt} (h : ∀ a, b ≤ a → a < b + 19 → R'.2.1 a = R.2.1 a ∧ R'.1 a = R.1 a) (hG : RLy b R) : RLy b R' := by
  obtain ⟨k0, p3, p4, p5, p6, p7, p8, k1, k14, k15, k16, k17, k18, krow⟩ := hG
  have e0 := h b (by omega) (by omega)
  refine ⟨by rw [e0.1]; exact k0, by rw [e0.2]; exact p3, by rw [e0.2]; exact p4, by rw [e0.2]; exact p5, by rw [e0.2]; exact p6, by rw [e0.2]; exact p7, by rw [e0.2]; exact p8, ?_, ?_, ?_, ?_, ?_, ?_, fun i hi => ⟨?_, ?_⟩⟩
  · rw [(h _ (by omega) (by omega)).1]
    exact k1
  · rw [(h _ (by omega) (by omega)).1]
    exact k14
  · rw [(h _ (by omega) (by omega)).1]
    exact k15
  · rw [(h _ (by omega) (by omega)).1]
    exact k16
  · rw [(h _ (by omega) (by omega)).1]
    exact k17
  · rw [(h _ (by omega) (by omega)).1]
    exact k18
  · rw [(h _ (by omega) (by omega)).2]
    exact (krow i hi).1
  · rw [(h _ (by omega) (by omega)).1]
    exact (krow i hi).2
section RINIT
variable {d b fm li cu : Nat} {I : Nat → Nat → Int32} {L : Nat → Nat → Int64} {R : zRt} {Q : zO → zM → Prop}
end RINIT
