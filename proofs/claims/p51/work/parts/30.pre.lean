/-! What an instruction asks, said of the kinds. -/
theorem zob_iff {M : zM} {a c : Nat} : zob M (some a) c ↔ zK M a = some (c, 0) := ⟨fun ⟨_, h, k⟩ => by cases h; exact k, fun h => ⟨a, rfl, h⟩⟩
def zkIs (o : Option (Nat × Nat)) (t : Nat) (i : Int32) : Prop := match o with
  | some (t', n) => t' = t ∧ vp_in i n
  | none => False
theorem zar_iff {M : zM} {a t : Nat} {i : Int32} : zar M (some a) t i ↔ zkIs (zK M a) t i := by
  constructor
  · rintro ⟨_, n, h, k, q⟩
    cases h
    rw [k]
    exact ⟨rfl, q⟩
  · intro h
    unfold zkIs at h
    split at h
    · rename_i t' n k
      obtain ⟨rfl, q⟩ := h
      exact ⟨a, n, rfl, k, q⟩
    · exact h.elim
theorem zkIs_some (t' n t : Nat) (i : Int32) : zkIs (some (t', n)) t i ↔ t' = t ∧ vp_in i n := Iff.rfl
def zkHas (o : Option (Nat × Nat)) (t : Nat) : Prop := match o with
  | some (t', _) => t' = t
  | none => False
theorem zis_iff {M : zM} {a t : Nat} : zis M (some a) t ↔ zkHas (zK M a) t := by
  constructor
  · rintro ⟨_, n, h, k⟩
    cases h
    rw [k]
    exact rfl
  · intro h
    unfold zkHas at h
    split at h
    · rename_i t' n k
      obtain rfl := h
      exact ⟨a, n, rfl, k⟩
    · exact h.elim
theorem zkHas_some (t' n t : Nat) : zkHas (some (t', n)) t ↔ t' = t := Iff.rfl
theorem zall_0 : zall [] = True := rfl
theorem zall_1 (p : Prop) : zall [p] = p := rfl
theorem zall_2 (p q : Prop) (t : List Prop) : zall (p :: q :: t) = (p ∧ zall (q :: t)) := rfl
theorem z01_I {z : Int} (h1 : -2147483648 ≤ z) (h2 : z < 2147483648) : z01 (iI z) ↔ z = 0 ∨ z = 1 := by
  unfold z01
  rw [iI_eq0 h1 h2, ← iI_1, iI_eq h1 h2 (by decide) (by decide)]
theorem z01_bz (b : Bool) : z01 (bz b) ↔ True := ⟨fun _ => trivial, fun _ => z01_b b⟩
theorem zch_I {z : Int} (h1 : -2147483648 ≤ z) (h2 : z < 2147483648) : zch (iI z) ↔ 0 ≤ z ∧ z < 65536 := by
  unfold zch
  constructor
  · rintro ⟨n, h, e⟩
    rw [nI_I, iI_eq h1 h2 (by omega) (by omega)] at e
    omega
  · intro h
    exact ⟨z.toNat, by omega, by
      rw [nI_I]
      exact iI_cg (by omega)⟩
theorem zP_wI (M : zM) (a k : Nat) (x : Int32) : zP (zwI M a k x) = zP M := rfl
theorem zlenOf_some {M : zM} {a t n : Nat} (h : zK M a = some (t, n)) : zlenOf M (some a) = n := by
  unfold zlenOf
  rw [zg_some, h]
theorem z01c0 : z01 (zcn 0) := by
  rw [zcn_I]
  exact z01_0
theorem z01c1 : z01 (zcn 1) := by
  rw [zcn_I]
  exact z01_1
