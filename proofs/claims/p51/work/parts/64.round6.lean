/-! A round of the class: comparing, counting, who goes on. -/
theorem zld_max : zldI 2182 = 2147483647 := by decide +kernel
def nBet (w : zRd) (c : Nat) : Nat := ct (fun i => decide (0 < rMa w i ∧ rkey w i < rkey w c)) 12
def nAlk (w : zRd) (c : Nat) : Nat := ct (fun i => decide (0 < rMa w i ∧ rkey w i = rkey w c)) 12
def nSta (w : zRd) : Nat := ct (fun i => decide (0 < rMa w i)) 12
def rGo (w : zRd) (c many : Nat) : Prop := 0 < rMa w c ∧ nBet w c < (if nSta w * 3 / 4 < many then nSta w * 3 / 4 else many) ∧ nBet w c + nAlk w c ≤ nSta w * 3 / 4
/-- at most three quarters go on -/
theorem rGo_few (w : zRd) (m : Nat) : 4 * ct (fun i => dc (rGo w i m)) 12 ≤ 3 * nSta w := by
  by_cases h : ∃ i, i < 12 ∧ rGo w i m
  · -- one with the greatest key
    have big : ∀ n, n ≤ 12 → (∃ i, i < n ∧ rGo w i m) → ∃ i, i < n ∧ rGo w i m ∧ ∀ j, j < n → rGo w j m → rkey w j ≤ rkey w i := by
      intro n
      induction n with
      | zero =>
        rintro _ ⟨i, hi, -⟩
        exact absurd hi (Nat.not_lt_zero i)
      | succ n ih =>
        rintro hn ⟨i, hi, hg⟩
        by_cases hx : ∃ i, i < n ∧ rGo w i m
        · obtain ⟨k, k1, k2, k3⟩ := ih (by omega) hx
          by_cases hgn : rGo w n m ∧ rkey w k < rkey w n
          · refine ⟨n, by omega, hgn.1, fun j hj hgj => ?_⟩
            by_cases e : j = n
            · rw [e]
              exact Int.le_refl _
            · have := k3 j (by omega) hgj
              omega
          · refine ⟨k, by omega, k2, fun j hj hgj => ?_⟩
            by_cases e : j = n
            · rw [e] at hgj ⊢
              exact Int.not_lt.mp fun q => hgn ⟨hgj, q⟩
            · exact k3 j (by omega) hgj
        · have e : i = n := Classical.byContradiction fun q => hx ⟨i, by omega, hg⟩
          refine ⟨n, by omega, by rw [← e]; exact hg, fun j hj hgj => ?_⟩
          by_cases e2 : j = n
          · rw [e2]
            exact Int.le_refl _
          · exact absurd ⟨j, by omega, hgj⟩ hx
    obtain ⟨i, h1, h2, h3⟩ := big 12 (Nat.le_refl _) h
    have hsum : ∀ n, ct (fun j => decide (0 < rMa w j ∧ rkey w j < rkey w i)) n + ct (fun j => decide (0 < rMa w j ∧ rkey w j = rkey w i)) n = ct (fun j => decide (0 < rMa w j ∧ rkey w j ≤ rkey w i)) n := by
      intro n
      induction n with
      | zero => rfl
      | succ n ih =>
        show _ + (if decide (0 < rMa w n ∧ rkey w n < rkey w i) then 1 else 0) + (_ + (if decide (0 < rMa w n ∧ rkey w n = rkey w i) then 1 else 0)) = _ + (if decide (0 < rMa w n ∧ rkey w n ≤ rkey w i) then 1 else 0)
        rw [← ih]
        simp only [decide_eq_true_eq]
        by_cases a : 0 < rMa w n
        · rcases Int.lt_trichotomy (rkey w n) (rkey w i) with t | t | t
          · rw [if_pos ⟨a, t⟩, if_neg (by omega), if_pos (by omega)]
            omega
          · rw [if_neg (by omega), if_pos ⟨a, t⟩, if_pos (by omega)]
            omega
          · rw [if_neg (by omega), if_neg (by omega), if_neg (by omega)]
            omega
        · rw [if_neg (by omega), if_neg (by omega), if_neg (by omega)]
          omega
    have hle : ct (fun i => dc (rGo w i m)) 12 ≤ ct (fun j => decide (0 < rMa w j ∧ rkey w j ≤ rkey w i)) 12 := ct_mono fun j hj q => by
      have q := dc_t.mp q
      exact decide_eq_true ⟨q.1, h3 j hj q⟩
    have h4 := h2.2.2
    unfold nBet nAlk at h4
    have := hsum 12
    omega
  · have : ct (fun i => dc (rGo w i m)) 12 = 0 := ct_z fun i hi => dc_f.mpr fun q => h ⟨i, hi, q⟩
    omega
section ROUND6
variable {d b : Nat} {w : zRd} {I : Nat → Nat → Int32} {L : Nat → Nat → Int64} {R : zRt} {Q : zO → zM → Prop}
theorem cmp_ok {a c : Int} {x y : Int32} {M : zM} (hd : 1 ≤ d) (e1 : x = iI a) (e2 : y = iI c) (h1 : -2147483648 ≤ a) (h2 : a < 2147483648) (h3 : -2147483648 ≤ c) (h4 : c < 2147483648) (hQ : Q (.inl (some (zi (iI (cmpI a c))))) M) : zS 252 d [zi x, zi y] M Q := by
  subst e1; subst e2
  rcases Int.lt_trichotomy a c with t | t | t
  · rw [cmpI_lt t] at hQ
    refine zW.gbf [] rfl rfl rfl hd trivial ?_ (zW.gr [] rfl rfl rfl hd trivial trivial ?_)
    · exact (by simp (disch := omega) only [eq_self, not_true_eq_false, not_false_eq_true, upI_same, upL_same, upI_ne, upL_ne, iI_ixN, zI_mk, zL_mk, zP_mk, zK_mk, zN_mk, zwI_up, zwL_up, zg_some, Nat.reduceMod, Nat.reduceDiv, zcn_I, iI_add, iI_sub, iI_mul, iI_neg, iI_lt, iI_le, iI_eq, iI_lt0, iI_le0, iI_gt0, iI_ge0, iI_eq0] <;> omega)
    · rw [zcn_I]
      exact hQ
  · subst t
    rw [cmpI_eq] at hQ
    refine zW.gbt [] rfl rfl rfl hd trivial ?_ (zW.gbf [] rfl rfl rfl hd trivial ?_ (zW.gr [] rfl rfl rfl hd trivial trivial ?_))
    · exact (by simp (disch := omega) only [eq_self, not_true_eq_false, not_false_eq_true, upI_same, upL_same, upI_ne, upL_ne, iI_ixN, zI_mk, zL_mk, zP_mk, zK_mk, zN_mk, zwI_up, zwL_up, zg_some, Nat.reduceMod, Nat.reduceDiv, zcn_I, iI_add, iI_sub, iI_mul, iI_neg, iI_lt, iI_le, iI_eq, iI_lt0, iI_le0, iI_gt0, iI_ge0, iI_eq0] <;> omega)
    · exact (by simp (disch := omega) only [eq_self, not_true_eq_false, not_false_eq_true, upI_same, upL_same, upI_ne, upL_ne, iI_ixN, zI_mk, zL_mk, zP_mk, zK_mk, zN_mk, zwI_up, zwL_up, zg_some, Nat.reduceMod, Nat.reduceDiv, zcn_I, iI_add, iI_sub, iI_mul, iI_neg, iI_lt, iI_le, iI_eq, iI_lt0, iI_le0, iI_gt0, iI_ge0, iI_eq0] <;> omega)
    · rw [zcn_I]
      exact hQ
  · rw [cmpI_gt t] at hQ
    refine zW.gbt [] rfl rfl rfl hd trivial ?_ (zW.gbt [] rfl rfl rfl hd trivial ?_ (zW.gr [] rfl rfl rfl hd trivial trivial ?_))
    · exact (by simp (disch := omega) only [eq_self, not_true_eq_false, not_false_eq_true, upI_same, upL_same, upI_ne, upL_ne, iI_ixN, zI_mk, zL_mk, zP_mk, zK_mk, zN_mk, zwI_up, zwL_up, zg_some, Nat.reduceMod, Nat.reduceDiv, zcn_I, iI_add, iI_sub, iI_mul, iI_neg, iI_lt, iI_le, iI_eq, iI_lt0, iI_le0, iI_gt0, iI_ge0, iI_eq0] <;> omega)
    · exact (by simp (disch := omega) only [eq_self, not_true_eq_false, not_false_eq_true, upI_same, upL_same, upI_ne, upL_ne, iI_ixN, zI_mk, zL_mk, zP_mk, zK_mk, zN_mk, zwI_up, zwL_up, zg_some, Nat.reduceMod, Nat.reduceDiv, zcn_I, iI_add, iI_sub, iI_mul, iI_neg, iI_lt, iI_le, iI_eq, iI_lt0, iI_le0, iI_gt0, iI_ge0, iI_eq0] <;> omega)
    · rw [zcn_I]
      exact hQ
theorem bI_m (x : Nat) : bI1 109 x = (x : Int) - 1 := by
  unfold bI1 cv
  split
  · rename_i h
    rw [h]
    rfl
  · exact if_pos rfl
theorem bI_o {fm : Nat} (h : fm ≠ 109) (x : Nat) : bI1 fm x = aI1 x := by
  unfold bI1 aI1 cv
  rw [if_neg h]
theorem cmpSub (a c : Nat) : cmpI ((a : Int) - 1) ((c : Int) - 1) = cmpI a c := by
  rcases Int.lt_trichotomy (a : Int) c with t | t | t
  · rw [cmpI_lt t, cmpI_lt (by omega)]
  · rw [t, cmpI_eq, cmpI_eq]
  · rw [cmpI_gt t, cmpI_gt (by omega)]
end ROUND6
