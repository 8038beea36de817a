/-! The model counts orbits. -/
section MORB3
variable {d y c s : Nat} {T : tfT} {I : Nat → Nat → Int32} {L : Nat → Nat → Int64} {R : zRt} {Q : zO → zM → Prop}
theorem ob_id {i b : Nat} {v4 v5 v6 : Option zV} (hd : 1 ≤ d) (kb : R.2.1 b = some (20, 10))
    (hQ : ∀ I' x, (∀ a, a ≠ b → I' a = I a) → (∀ p : Nat, p < 10 → I' b p = iI (p : Int)) → zW 192 d c s 38 [some (zr (some y)), some (zi (iI (i : Int))), some (zr (some b)), some (zi x), v4, v5, v6] [] (I', L, R) Q) :
    ∀ m k, k + m = 10 → ∀ (I1 : Nat → Nat → Int32) (x : Int32), (∀ a, a ≠ b → I1 a = I a) → (∀ p : Nat, p < k → I1 b p = iI (p : Int)) → x = iI (k : Int) → zW 192 d c s 22 [some (zr (some y)), some (zi (iI (i : Int))), some (zr (some b)), some (zi x), v4, v5, v6] [] (I1, L, R) Q
  | 0, k, hk, I1, x, f1, f2, e => by
    subst e
    obtain rfl : k = 10 := by omega
    exact zW.gbt [] rfl rfl rfl (by omega) trivial (by simp (disch := omega) only [eq_self, not_true_eq_false, not_false_eq_true, upI_same, upL_same, upI_ne, upL_ne, iI_ixN, zI_mk, zL_mk, zP_mk, zK_mk, zN_mk, zwI_up, zwL_up, zg_some, Nat.reduceMod, Nat.reduceDiv, zcn_I, iI_add, iI_sub, iI_mul, iI_neg, iI_lt, iI_le, iI_eq, iI_lt0, iI_le0, iI_gt0, iI_ge0, iI_eq0] <;> omega) (hQ I1 _ f1 f2)
  | m + 1, k, hk, I1, x, f1, f2, e => by
    subst e
    refine zW.gbf [] rfl rfl rfl (by omega) trivial (by simp (disch := omega) only [eq_self, not_true_eq_false, not_false_eq_true, upI_same, upL_same, upI_ne, upL_ne, iI_ixN, zI_mk, zL_mk, zP_mk, zK_mk, zN_mk, zwI_up, zwL_up, zg_some, Nat.reduceMod, Nat.reduceDiv, zcn_I, iI_add, iI_sub, iI_mul, iI_neg, iI_lt, iI_le, iI_eq, iI_lt0, iI_le0, iI_gt0, iI_ge0, iI_eq0] <;> omega) ?_
    refine zW.go [22] rfl (by omega) (by simp (disch := omega) only [true_or, or_true, eq_self, Option.some.injEq, Prod.mk.injEq, zall_0, zall_1, zall_2, zob_iff, zar_iff, zis_iff, zkIs_some, zkHas_some, iI_vp, z01_I, z01_bz, zch_I, true_and, and_true, or_false, false_or, and_self, upI_same, upL_same, upI_ne, upL_ne, iI_ixN, zI_mk, zL_mk, zP_mk, zK_mk, zN_mk, zwI_up, zwL_up, zg_some, Nat.reduceMod, Nat.reduceDiv, zcn_I, iI_add, iI_sub, iI_mul, iI_neg, iI_lt, iI_le, iI_eq, iI_lt0, iI_le0, iI_gt0, iI_ge0, iI_eq0, kb] <;> omega) ?_
    simp (disch := omega) only [upI_same, upL_same, upI_ne, upL_ne, iI_ixN, zI_mk, zL_mk, zP_mk, zK_mk, zN_mk, zwI_up, zwL_up, zg_some, Nat.reduceMod, Nat.reduceDiv, zcn_I, iI_add, iI_sub, iI_mul, iI_neg, iI_lt, iI_le, iI_eq, iI_lt0, iI_le0, iI_gt0, iI_ge0, iI_eq0]
    refine ob_id hd kb hQ m (k + 1) (by omega) _ _ (fun a q => (upI_row q).trans (f1 a q)) (fun p hp => ?_) rfl
    by_cases q : p = k
    · rw [q, upI_same]
    · rw [upI_ne (by omega)]
      exact f2 p (by omega)
theorem ob_ct {i b n k : Nat} {l : Nat → Nat} {x3 : Int32} (hd : 1 ≤ d) (hM : ML y R) (hi : i < 4) (hn : n ≤ 10) (hk : k < n) (kb : R.2.1 b = some (20, 10)) (vn : I (y + 2) i = iI (n : Int)) (vb : ∀ p, p < 10 → I b p = iI (l p : Int)) (hl10 : ∀ p, p < 10 → l p < 10)
    (hQ : ∀ x, zW 192 d c s 177 [some (zr (some y)), some (zi (iI (i : Int))), some (zr (some b)), some (zi x3), some (zi (iI (k : Int))), some (zi (iI (ct (fun p => decide (l p = k)) n : Int))), some (zi x)] [] (I, L, R) Q) :
    ∀ m q, q + m = n → ∀ (x5 x6 : Int32), x5 = iI (ct (fun p => decide (l p = k)) q : Int) → x6 = iI (q : Int) → zW 192 d c s 141 [some (zr (some y)), some (zi (iI (i : Int))), some (zr (some b)), some (zi x3), some (zi (iI (k : Int))), some (zi x5), some (zi x6)] [] (I, L, R) Q
  | 0, q, hq, x5, x6, e5, e6 => by
    subst e5; subst e6
    have k0 : R.2.1 y = some (7, 0) := hM.1
    have p1 : R.1 y 1 = some (y + 2) := (hM.2.1 1 (by decide)).1; have k1 : R.2.1 (y + 2) = some (20, 4) := (hM.2.1 1 (by decide)).2
    obtain rfl : q = n := by omega
    exact zW.gbt [] rfl rfl rfl (by omega) (by simp (disch := omega) only [true_or, or_true, eq_self, Option.some.injEq, Prod.mk.injEq, zall_0, zall_1, zall_2, zob_iff, zar_iff, zis_iff, zkIs_some, zkHas_some, iI_vp, z01_I, z01_bz, zch_I, true_and, and_true, or_false, false_or, and_self, upI_same, upL_same, upI_ne, upL_ne, iI_ixN, zI_mk, zL_mk, zP_mk, zK_mk, zN_mk, zwI_up, zwL_up, zg_some, Nat.reduceMod, Nat.reduceDiv, zcn_I, iI_add, iI_sub, iI_mul, iI_neg, iI_lt, iI_le, iI_eq, iI_lt0, iI_le0, iI_gt0, iI_ge0, iI_eq0, k0, p1, k1] <;> omega) (by simp (disch := omega) only [eq_self, not_true_eq_false, not_false_eq_true, upI_same, upL_same, upI_ne, upL_ne, iI_ixN, zI_mk, zL_mk, zP_mk, zK_mk, zN_mk, zwI_up, zwL_up, zg_some, Nat.reduceMod, Nat.reduceDiv, zcn_I, iI_add, iI_sub, iI_mul, iI_neg, iI_lt, iI_le, iI_eq, iI_lt0, iI_le0, iI_gt0, iI_ge0, iI_eq0, p1, vn] <;> omega) (hQ _)
  | m + 1, q, hq, x5, x6, e5, e6 => by
    subst e5; subst e6
    have k0 : R.2.1 y = some (7, 0) := hM.1
    have v1 := vb q (by omega)
    have l1 := hl10 q (by omega)
    have p1 : R.1 y 1 = some (y + 2) := (hM.2.1 1 (by decide)).1; have k1 : R.2.1 (y + 2) = some (20, 4) := (hM.2.1 1 (by decide)).2
    have NX : ∀ (u : Int32) (e : Bool), u = iI ((if e then 1 else 0 : Nat) : Int) → decide (l q = k) = e → zW 192 d c s 168 [some (zr (some y)), some (zi (iI (i : Int))), some (zr (some b)), some (zi x3), some (zi (iI (k : Int))), some (zi (iI (ct (fun p => decide (l p = k)) q : Int))), some (zi (iI (q : Int)))] [zi u, zi (iI (ct (fun p => decide (l p = k)) q : Int))] (I, L, R) Q := fun u e hu he => by
      subst hu
      refine zW.go [141] rfl (by omega) trivial ?_
      refine ob_ct hd hM hi hn hk kb vn vb hl10 hQ m (q + 1) (by omega) _ _ ?_ (by rw [zcn_I, iI_add]; rfl)
      rw [iI_add]
      show _ = iI ((ct (fun p => decide (l p = k)) q + (if decide (l q = k) then 1 else 0) : Nat) : Int)
      rw [he]
      exact iI_cg (by omega)
    refine zW.gbf [] rfl rfl rfl (by omega) (by simp (disch := omega) only [true_or, or_true, eq_self, Option.some.injEq, Prod.mk.injEq, zall_0, zall_1, zall_2, zob_iff, zar_iff, zis_iff, zkIs_some, zkHas_some, iI_vp, z01_I, z01_bz, zch_I, true_and, and_true, or_false, false_or, and_self, upI_same, upL_same, upI_ne, upL_ne, iI_ixN, zI_mk, zL_mk, zP_mk, zK_mk, zN_mk, zwI_up, zwL_up, zg_some, Nat.reduceMod, Nat.reduceDiv, zcn_I, iI_add, iI_sub, iI_mul, iI_neg, iI_lt, iI_le, iI_eq, iI_lt0, iI_le0, iI_gt0, iI_ge0, iI_eq0, k0, p1, k1] <;> omega) (by simp (disch := omega) only [eq_self, not_true_eq_false, not_false_eq_true, upI_same, upL_same, upI_ne, upL_ne, iI_ixN, zI_mk, zL_mk, zP_mk, zK_mk, zN_mk, zwI_up, zwL_up, zg_some, Nat.reduceMod, Nat.reduceDiv, zcn_I, iI_add, iI_sub, iI_mul, iI_neg, iI_lt, iI_le, iI_eq, iI_lt0, iI_le0, iI_gt0, iI_ge0, iI_eq0, p1, vn] <;> omega) ?_
    refine zW.gb [] rfl rfl rfl (by omega) (by simp (disch := omega) only [true_or, or_true, eq_self, Option.some.injEq, Prod.mk.injEq, zall_0, zall_1, zall_2, zob_iff, zar_iff, zis_iff, zkIs_some, zkHas_some, iI_vp, z01_I, z01_bz, zch_I, true_and, and_true, or_false, false_or, and_self, upI_same, upL_same, upI_ne, upL_ne, iI_ixN, zI_mk, zL_mk, zP_mk, zK_mk, zN_mk, zwI_up, zwL_up, zg_some, Nat.reduceMod, Nat.reduceDiv, zcn_I, iI_add, iI_sub, iI_mul, iI_neg, iI_lt, iI_le, iI_eq, iI_lt0, iI_le0, iI_gt0, iI_ge0, iI_eq0, kb] <;> omega) (fun h' => ?_) (fun h' => ?_) <;> simp (disch := omega) only [zcn_I, iI_add, iI_sub, iI_mul, iI_neg, iI_lt, iI_le, iI_eq, iI_lt0, iI_le0, iI_gt0, iI_ge0, iI_eq0, upI_same, upL_same, upI_ne, upL_ne, iI_ixN, zI_mk, zL_mk, zP_mk, zK_mk, zN_mk, zwI_up, zwL_up, zg_some, Nat.reduceMod, Nat.reduceDiv, v1] at h'
    · exact zW.go [168] rfl (by omega) trivial (NX _ false (zcn_I _) (decide_eq_false (by omega)))
    · exact zW.go [168] rfl (by omega) trivial (NX _ true (zcn_I _) (decide_eq_true (by omega)))
theorem ob_lp {i b n : Nat} {G : (Nat → Nat) → Prop} {l : Nat → Nat} (hd : 1 ≤ d) (hM : ML y R) (hi : i < 4) (hn : n ≤ 10) (hG : isG G) (hN : ∀ g, G g → pm n g) (kb : R.2.1 b = some (20, 10)) (vn : I (y + 2) i = iI (n : Int)) (vb : ∀ p, p < 10 → I b p = iI (l p : Int)) (h1 : lbJ G l) (h2 : lbP G 10 l)
    (hQ : Q (.inl (some (zi (iI (orbC G n : Int))))) (I, L, R)) :
    ∀ m k, k + m = n → ∀ (x3 x4 : Int32) (v5 v6 : Option zV), x3 = iI (ct (fun k => dc (orbL G k)) k : Int) → x4 = iI (k : Int) → zW 192 d c s 124 [some (zr (some y)), some (zi (iI (i : Int))), some (zr (some b)), some (zi x3), some (zi x4), v5, v6] [] (I, L, R) Q
  | 0, k, hk, x3, x4, v5, v6, e3, e4 => by
    subst e3; subst e4
    have k0 : R.2.1 y = some (7, 0) := hM.1
    have p1 : R.1 y 1 = some (y + 2) := (hM.2.1 1 (by decide)).1; have k1 : R.2.1 (y + 2) = some (20, 4) := (hM.2.1 1 (by decide)).2
    obtain rfl : k = n := by omega
    refine zW.gbt [] rfl rfl rfl (by omega) (by simp (disch := omega) only [true_or, or_true, eq_self, Option.some.injEq, Prod.mk.injEq, zall_0, zall_1, zall_2, zob_iff, zar_iff, zis_iff, zkIs_some, zkHas_some, iI_vp, z01_I, z01_bz, zch_I, true_and, and_true, or_false, false_or, and_self, upI_same, upL_same, upI_ne, upL_ne, iI_ixN, zI_mk, zL_mk, zP_mk, zK_mk, zN_mk, zwI_up, zwL_up, zg_some, Nat.reduceMod, Nat.reduceDiv, zcn_I, iI_add, iI_sub, iI_mul, iI_neg, iI_lt, iI_le, iI_eq, iI_lt0, iI_le0, iI_gt0, iI_ge0, iI_eq0, k0, p1, k1] <;> omega) (by simp (disch := omega) only [eq_self, not_true_eq_false, not_false_eq_true, upI_same, upL_same, upI_ne, upL_ne, iI_ixN, zI_mk, zL_mk, zP_mk, zK_mk, zN_mk, zwI_up, zwL_up, zg_some, Nat.reduceMod, Nat.reduceDiv, zcn_I, iI_add, iI_sub, iI_mul, iI_neg, iI_lt, iI_le, iI_eq, iI_lt0, iI_le0, iI_gt0, iI_ge0, iI_eq0, p1, vn] <;> omega) ?_
    exact zW.gr [] rfl rfl rfl (by omega) trivial trivial hQ
  | m + 1, k, hk, x3, x4, v5, v6, e3, e4 => by
    subst e3; subst e4
    have k0 : R.2.1 y = some (7, 0) := hM.1
    have hle := lb_end hG h2 h1 hn hN (show k < n by omega)
    have cle : ct (fun p => decide (l p = k)) n ≤ n := ct_le _ _
    have p1 : R.1 y 1 = some (y + 2) := (hM.2.1 1 (by decide)).1; have k1 : R.2.1 (y + 2) = some (20, 4) := (hM.2.1 1 (by decide)).2
    refine zW.gbf [] rfl rfl rfl (by omega) (by simp (disch := omega) only [true_or, or_true, eq_self, Option.some.injEq, Prod.mk.injEq, zall_0, zall_1, zall_2, zob_iff, zar_iff, zis_iff, zkIs_some, zkHas_some, iI_vp, z01_I, z01_bz, zch_I, true_and, and_true, or_false, false_or, and_self, upI_same, upL_same, upI_ne, upL_ne, iI_ixN, zI_mk, zL_mk, zP_mk, zK_mk, zN_mk, zwI_up, zwL_up, zg_some, Nat.reduceMod, Nat.reduceDiv, zcn_I, iI_add, iI_sub, iI_mul, iI_neg, iI_lt, iI_le, iI_eq, iI_lt0, iI_le0, iI_gt0, iI_ge0, iI_eq0, k0, p1, k1] <;> omega) (by simp (disch := omega) only [eq_self, not_true_eq_false, not_false_eq_true, upI_same, upL_same, upI_ne, upL_ne, iI_ixN, zI_mk, zL_mk, zP_mk, zK_mk, zN_mk, zwI_up, zwL_up, zg_some, Nat.reduceMod, Nat.reduceDiv, zcn_I, iI_add, iI_sub, iI_mul, iI_neg, iI_lt, iI_le, iI_eq, iI_lt0, iI_le0, iI_gt0, iI_ge0, iI_eq0, p1, vn] <;> omega) ?_
    refine zW.go [141] rfl (by omega) trivial ?_
    refine ob_ct (l := l) hd hM hi hn (show k < n by omega) kb vn vb (fun p hp => by have := (h1 p hp).1; omega) (fun x6 => ?_) n 0 (Nat.zero_add _) _ _ (zcn_I _) (zcn_I _)
    have NX : ∀ (u : Int32) (e : Bool), u = iI ((if e then 1 else 0 : Nat) : Int) → dc (orbL G k) = e → zW 192 d c s 189 [some (zr (some y)), some (zi (iI (i : Int))), some (zr (some b)), some (zi (iI (ct (fun k => dc (orbL G k)) k : Int))), some (zi (iI (k : Int))), some (zi (iI (ct (fun p => decide (l p = k)) n : Int))), some (zi x6)] [zi u, zi (iI (ct (fun k => dc (orbL G k)) k : Int))] (I, L, R) Q := fun u e hu he => by
      subst hu
      refine zW.go [124] rfl (by omega) trivial ?_
      refine ob_lp hd hM hi hn hG hN kb vn vb h1 h2 hQ m (k + 1) (by omega) _ _ _ _ ?_ (by rw [zcn_I, iI_add]; rfl)
      rw [iI_add]
      show _ = iI ((ct (fun k => dc (orbL G k)) k + (if dc (orbL G k) then 1 else 0) : Nat) : Int)
      rw [he]
      exact iI_cg (by omega)
    refine zW.gb [] rfl rfl rfl (by omega) trivial (fun h' => ?_) (fun h' => ?_) <;> simp (disch := omega) only [zcn_I, iI_add, iI_sub, iI_mul, iI_neg, iI_lt, iI_le, iI_eq, iI_lt0, iI_le0, iI_gt0, iI_ge0, iI_eq0] at h'
    · exact zW.go [189] rfl (by omega) trivial (NX _ false (zcn_I _) (dc_f.mpr (fun q => by have := hle.mpr q; omega)))
    · exact zW.go [189] rfl (by omega) trivial (NX _ true (zcn_I _) (dc_t.mpr (hle.mp (by omega))))
end MORB3
