/-! The law's draws: any number below the one that is asked for. -/
theorem zlen_K {M : zM} {a t n : Nat} (h : zK M a = some (t, n)) : zlenOf M (some a) = n := by
  unfold zlenOf
  rw [show zg (some a) = a from rfl, h]
theorem and31 (x : Int32) : ∃ n : Nat, n < 2147483648 ∧ x &&& iI 2147483647 = iI (n : Int) := by
  refine ⟨(x.toBitVec &&& 2147483647#32).toNat, ?_, ?_⟩
  · rw [BitVec.toNat_and]
    have : (x.toBitVec.toNat &&& (2147483647#32).toNat) ≤ (2147483647#32).toNat := Nat.and_le_right
    have e : (2147483647#32).toNat = 2147483647 := by decide
    omega
  · rw [← nI_I]
    apply Int32.toBitVec_inj.mp
    show x.toBitVec &&& (iI 2147483647).toBitVec = BitVec.ofNat 32 _
    rw [BitVec.ofNat_toNat, BitVec.setWidth_eq]
    rfl
section CELL
variable {d b Ls : Nat} {I : Nat → Nat → Int32} {L : Nat → Nat → Int64} {R : zRt} {Q : zO → zM → Prop}
theorem h297_ok {i : Nat} {a : Int32} (hd : 1 ≤ d) (hK : R.2.1 b = some (30, Ls)) (hL : Ls ≤ 260) (e : a = iI (i : Int)) (hi : i ≤ 300) (hQ : ∀ h, Q (.inl (some (zi h))) (I, L, R)) : zS 297 d [zr (some b), zi a] (I, L, R) Q := by
  subst e
  refine zW.gb [] rfl rfl rfl (by omega) ⟨10, by decide, ⟨b, Ls, rfl, hK⟩⟩ (fun g => ?_) (fun g => ?_)
  · exact zW.gr [] rfl rfl rfl (by omega) trivial trivial (hQ _)
  · rw [zlen_K (M := (I, L, R)) hK, nI_I, iI_le (by omega) (by omega) (by omega) (by omega)] at g
    exact zW.gr [] rfl rfl rfl (by omega) (Or.inr ⟨b, Ls, rfl, hK, (iI_vp (by omega) (by omega)).mpr ⟨by omega, by omega⟩⟩) trivial (hQ _)
theorem h296_ok {i n : Nat} {a c : Int32} (hd : 2 ≤ d) (hK : R.2.1 b = some (30, Ls)) (hL : Ls ≤ 260) (e : a = iI (i : Int)) (hi : i ≤ 300) (e2 : c = iI (n : Int)) (hn : 1 ≤ n) (hn2 : n < 2147483648) (hQ : ∀ v : Nat, v < n → Q (.inl (some (zi (iI (v : Int))))) (I, L, R)) : zS 296 d [zr (some b), zi a, zi c] (I, L, R) Q := by
  subst e2
  refine zW.gz [] rfl rfl rfl (by omega) trivial trivial rfl rfl (by decide +kernel) (by decide +kernel) ?_
  refine h297_ok (by omega) hK hL e hi (fun h => ?_)
  have hm : zcn (zldI 4166) = iI 2147483647 := by decide +kernel
  obtain ⟨k, k1, k2⟩ := and31 h
  have hne : ¬ iI (n : Int) = 0 := by
    rw [iI_eq0 (by omega) (by omega)]
    omega
  refine zW.gr [] rfl rfl rfl (by omega) hne trivial ?_
  have hv : (h &&& zcn (zldI 4166)) - (h &&& zcn (zldI 4166)) / iI (n : Int) * iI (n : Int) = iI ((k % n : Nat) : Int) := by
    rw [hm, k2, iI_mod (by omega) (by omega) (by omega) (by omega)]
    rfl
  show Q (.inl (some (zi ((h &&& zcn (zldI 4166)) - (h &&& zcn (zldI 4166)) / iI (n : Int) * iI (n : Int))))) (I, L, R)
  rw [hv]
  exact hQ _ (Nat.mod_lt _ (by omega))
end CELL
