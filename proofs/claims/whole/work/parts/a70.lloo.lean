/-! The law's loop. -/
section LLOO
variable {b L x m c s : Nat} {xs : Nat → Int32} {Q : zO → zM → Prop}
theorem an_63 (u : Int32) : ∃ j : Nat, j < 64 ∧ u &&& zcn 63 = iI (j : Int) := by
  refine ⟨(u &&& zcn 63).toBitVec.toNat, ?_, ?_⟩
  · rw [Int32.toBitVec_and, BitVec.toNat_and, show (zcn 63).toBitVec.toNat = 63 from by decide +kernel]
    exact Nat.lt_of_le_of_lt Nat.and_le_right (by decide)
  · unfold iI
    rw [Int32.ofInt_eq_ofNat]
    generalize u &&& zcn 63 = q
    exact congrArg UInt32.toInt32 (UInt32.ofNat_toNat (x := q.toUInt32)).symm
def swT (j : Nat) : Nat := (((45 : Nat) : Int) + (if (iI (j : Int)).toInt < 0 ∨ 47 < (iI (j : Int)).toInt then 3313 else (#[207, 263, 276, 332, 400, 480, 562, 630, 710, 766, 829, 884, 947, 1003, 1059, 1122, 1178, 1234, 1289, 1389, 1456, 1526, 1596, 1678, 1746, 1826, 1884, 1897, 1910, 1968, 2024, 2087, 2143, 2225, 2359, 2439, 2543, 2611, 2679, 2747, 2815, 2902, 2970, 3026, 3129, 3195, 3286, 3300] : Array Int).getD ((iI (j : Int)).toInt - 0).toNat 3313)).toNat
theorem lbod_ok {T : tfT} {M : zM} {v6 v7 v8 : Option zV} (hm : m + 7 ≤ L) (hL : L ≤ 3584) (h : lw b L x xs T T M) (hc : c + 26 ≤ zmc 298) (hs : s + 10831 ≤ zms 298) (hQ : lwK b L x m xs c s Q) : zW 298 2048 c s 38 [some (zr (some b)), some (zr (some x)), some (zr (some (x + 17))), some (zr (some (x + 1958))), some (zr (some (x + 1959))), some (zi (iI (m : Int))), v6, v7, v8] [] M Q := by
  obtain ⟨I, Lg, R⟩ := M
  refine zW.go [45] rfl (by omega) (Or.inr ⟨b, L, rfl, h.2.2.1, (iI_vp (by omega) (by omega)).mpr ⟨by omega, by omega⟩⟩) ?_
  obtain ⟨j, hj, ej⟩ := an_63 (xs m)
  rw [sc_0 h.2.2.2.1 hm hL, ej]
  by_cases e0 : j = 0
  · subst e0
    refine zW.sw (t := swT 0) (st' := []) rfl rfl (by omega) ?_
    rw [show swT 0 = 252 from by decide +kernel]
    exact l0_ok hm hL h hc hs hQ
  by_cases e1 : j = 1
  · subst e1
    refine zW.sw (t := swT 1) (st' := []) rfl rfl (by omega) ?_
    rw [show swT 1 = 308 from by decide +kernel]
    exact l1_ok hm hL h hc hs hQ
  by_cases e2 : j = 2
  · subst e2
    refine zW.sw (t := swT 2) (st' := []) rfl rfl (by omega) ?_
    rw [show swT 2 = 321 from by decide +kernel]
    exact l2_ok hm hL h hc hs hQ
  by_cases e3 : j = 3
  · subst e3
    refine zW.sw (t := swT 3) (st' := []) rfl rfl (by omega) ?_
    rw [show swT 3 = 377 from by decide +kernel]
    exact l3_ok hm hL h hc hs hQ
  by_cases e4 : j = 4
  · subst e4
    refine zW.sw (t := swT 4) (st' := []) rfl rfl (by omega) ?_
    rw [show swT 4 = 445 from by decide +kernel]
    exact l4_ok hm hL h hc hs hQ
  by_cases e5 : j = 5
  · subst e5
    refine zW.sw (t := swT 5) (st' := []) rfl rfl (by omega) ?_
    rw [show swT 5 = 525 from by decide +kernel]
    exact l5_ok hm hL h hc hs hQ
  by_cases e6 : j = 6
  · subst e6
    refine zW.sw (t := swT 6) (st' := []) rfl rfl (by omega) ?_
    rw [show swT 6 = 607 from by decide +kernel]
    exact l6_ok hm hL h hc hs hQ
  by_cases e7 : j = 7
  · subst e7
    refine zW.sw (t := swT 7) (st' := []) rfl rfl (by omega) ?_
    rw [show swT 7 = 675 from by decide +kernel]
    exact l7_ok hm hL h hc hs hQ
  by_cases e8 : j = 8
  · subst e8
    refine zW.sw (t := swT 8) (st' := []) rfl rfl (by omega) ?_
    rw [show swT 8 = 755 from by decide +kernel]
    exact l8_ok hm hL h hc hs hQ
  by_cases e9 : j = 9
  · subst e9
    refine zW.sw (t := swT 9) (st' := []) rfl rfl (by omega) ?_
    rw [show swT 9 = 811 from by decide +kernel]
    exact l9_ok hm hL h hc hs hQ
  by_cases e10 : j = 10
  · subst e10
    refine zW.sw (t := swT 10) (st' := []) rfl rfl (by omega) ?_
    rw [show swT 10 = 874 from by decide +kernel]
    exact l10_ok hm hL h hc hs hQ
  by_cases e11 : j = 11
  · subst e11
    refine zW.sw (t := swT 11) (st' := []) rfl rfl (by omega) ?_
    rw [show swT 11 = 929 from by decide +kernel]
    exact l11_ok hm hL h hc hs hQ
  by_cases e12 : j = 12
  · subst e12
    refine zW.sw (t := swT 12) (st' := []) rfl rfl (by omega) ?_
    rw [show swT 12 = 992 from by decide +kernel]
    exact l12_ok hm hL h hc hs hQ
  by_cases e13 : j = 13
  · subst e13
    refine zW.sw (t := swT 13) (st' := []) rfl rfl (by omega) ?_
    rw [show swT 13 = 1048 from by decide +kernel]
    exact l13_ok hm hL h hc hs hQ
  by_cases e14 : j = 14
  · subst e14
    refine zW.sw (t := swT 14) (st' := []) rfl rfl (by omega) ?_
    rw [show swT 14 = 1104 from by decide +kernel]
    exact l14_ok hm hL h hc hs hQ
  by_cases e15 : j = 15
  · subst e15
    refine zW.sw (t := swT 15) (st' := []) rfl rfl (by omega) ?_
    rw [show swT 15 = 1167 from by decide +kernel]
    exact l15_ok hm hL h hc hs hQ
  by_cases e16 : j = 16
  · subst e16
    refine zW.sw (t := swT 16) (st' := []) rfl rfl (by omega) ?_
    rw [show swT 16 = 1223 from by decide +kernel]
    exact l16_ok hm hL h hc hs hQ
  by_cases e17 : j = 17
  · subst e17
    refine zW.sw (t := swT 17) (st' := []) rfl rfl (by omega) ?_
    rw [show swT 17 = 1279 from by decide +kernel]
    exact l17_ok hm hL h hc hs hQ
  by_cases e18 : j = 18
  · subst e18
    refine zW.sw (t := swT 18) (st' := []) rfl rfl (by omega) ?_
    rw [show swT 18 = 1334 from by decide +kernel]
    exact l18_ok hm hL h hc hs hQ
  by_cases e19 : j = 19
  · subst e19
    refine zW.sw (t := swT 19) (st' := []) rfl rfl (by omega) ?_
    rw [show swT 19 = 1434 from by decide +kernel]
    exact l19_ok hm hL h hc hs hQ
  by_cases e20 : j = 20
  · subst e20
    refine zW.sw (t := swT 20) (st' := []) rfl rfl (by omega) ?_
    rw [show swT 20 = 1501 from by decide +kernel]
    exact l20_ok hm hL h hc hs hQ
  by_cases e21 : j = 21
  · subst e21
    refine zW.sw (t := swT 21) (st' := []) rfl rfl (by omega) ?_
    rw [show swT 21 = 1571 from by decide +kernel]
    exact l21_ok hm hL h hc hs hQ
  by_cases e22 : j = 22
  · subst e22
    refine zW.sw (t := swT 22) (st' := []) rfl rfl (by omega) ?_
    rw [show swT 22 = 1641 from by decide +kernel]
    exact l22_ok hm hL h hc hs hQ
  by_cases e23 : j = 23
  · subst e23
    refine zW.sw (t := swT 23) (st' := []) rfl rfl (by omega) ?_
    rw [show swT 23 = 1723 from by decide +kernel]
    exact l23_ok hm hL h hc hs hQ
  by_cases e24 : j = 24
  · subst e24
    refine zW.sw (t := swT 24) (st' := []) rfl rfl (by omega) ?_
    rw [show swT 24 = 1791 from by decide +kernel]
    exact l24_ok hm hL h hc hs hQ
  by_cases e25 : j = 25
  · subst e25
    refine zW.sw (t := swT 25) (st' := []) rfl rfl (by omega) ?_
    rw [show swT 25 = 1871 from by decide +kernel]
    exact l25_ok hm hL h hc hs hQ
  by_cases e26 : j = 26
  · subst e26
    refine zW.sw (t := swT 26) (st' := []) rfl rfl (by omega) ?_
    rw [show swT 26 = 1929 from by decide +kernel]
    exact l26_ok hm hL h hc hs hQ
  by_cases e27 : j = 27
  · subst e27
    refine zW.sw (t := swT 27) (st' := []) rfl rfl (by omega) ?_
    rw [show swT 27 = 1942 from by decide +kernel]
    exact l27_ok hm hL h hc hs hQ
  by_cases e28 : j = 28
  · subst e28
    refine zW.sw (t := swT 28) (st' := []) rfl rfl (by omega) ?_
    rw [show swT 28 = 1955 from by decide +kernel]
    exact l28_ok hm hL h hc hs hQ
  by_cases e29 : j = 29
  · subst e29
    refine zW.sw (t := swT 29) (st' := []) rfl rfl (by omega) ?_
    rw [show swT 29 = 2013 from by decide +kernel]
    exact l29_ok hm hL h hc hs hQ
  by_cases e30 : j = 30
  · subst e30
    refine zW.sw (t := swT 30) (st' := []) rfl rfl (by omega) ?_
    rw [show swT 30 = 2069 from by decide +kernel]
    exact l30_ok hm hL h hc hs hQ
  by_cases e31 : j = 31
  · subst e31
    refine zW.sw (t := swT 31) (st' := []) rfl rfl (by omega) ?_
    rw [show swT 31 = 2132 from by decide +kernel]
    exact l31_ok hm hL h hc hs hQ
  by_cases e32 : j = 32
  · subst e32
    refine zW.sw (t := swT 32) (st' := []) rfl rfl (by omega) ?_
    rw [show swT 32 = 2188 from by decide +kernel]
    exact l32_ok hm hL h hc hs hQ
  by_cases e33 : j = 33
  · subst e33
    refine zW.sw (t := swT 33) (st' := []) rfl rfl (by omega) ?_
    rw [show swT 33 = 2270 from by decide +kernel]
    exact l33_ok hm hL h hc hs hQ
  by_cases e34 : j = 34
  · subst e34
    refine zW.sw (t := swT 34) (st' := []) rfl rfl (by omega) ?_
    rw [show swT 34 = 2404 from by decide +kernel]
    exact l34_ok hm hL h hc hs hQ
  by_cases e35 : j = 35
  · subst e35
    refine zW.sw (t := swT 35) (st' := []) rfl rfl (by omega) ?_
    rw [show swT 35 = 2484 from by decide +kernel]
    exact l35_ok hm hL h hc hs hQ
  by_cases e36 : j = 36
  · subst e36
    refine zW.sw (t := swT 36) (st' := []) rfl rfl (by omega) ?_
    rw [show swT 36 = 2588 from by decide +kernel]
    exact l36_ok hm hL h hc hs hQ
  by_cases e37 : j = 37
  · subst e37
    refine zW.sw (t := swT 37) (st' := []) rfl rfl (by omega) ?_
    rw [show swT 37 = 2656 from by decide +kernel]
    exact l37_ok hm hL h hc hs hQ
  by_cases e38 : j = 38
  · subst e38
    refine zW.sw (t := swT 38) (st' := []) rfl rfl (by omega) ?_
    rw [show swT 38 = 2724 from by decide +kernel]
    exact l38_ok hm hL h hc hs hQ
  by_cases e39 : j = 39
  · subst e39
    refine zW.sw (t := swT 39) (st' := []) rfl rfl (by omega) ?_
    rw [show swT 39 = 2792 from by decide +kernel]
    exact l39_ok hm hL h hc hs hQ
  by_cases e40 : j = 40
  · subst e40
    refine zW.sw (t := swT 40) (st' := []) rfl rfl (by omega) ?_
    rw [show swT 40 = 2860 from by decide +kernel]
    exact l40_ok hm hL h hc hs hQ
  by_cases e41 : j = 41
  · subst e41
    refine zW.sw (t := swT 41) (st' := []) rfl rfl (by omega) ?_
    rw [show swT 41 = 2947 from by decide +kernel]
    exact l41_ok hm hL h hc hs hQ
  by_cases e42 : j = 42
  · subst e42
    refine zW.sw (t := swT 42) (st' := []) rfl rfl (by omega) ?_
    rw [show swT 42 = 3015 from by decide +kernel]
    exact l42_ok hm hL h hc hs hQ
  by_cases e43 : j = 43
  · subst e43
    refine zW.sw (t := swT 43) (st' := []) rfl rfl (by omega) ?_
    rw [show swT 43 = 3071 from by decide +kernel]
    exact l43_ok hm hL h hc hs hQ
  by_cases e44 : j = 44
  · subst e44
    refine zW.sw (t := swT 44) (st' := []) rfl rfl (by omega) ?_
    rw [show swT 44 = 3174 from by decide +kernel]
    exact l44_ok hm hL h hc hs hQ
  by_cases e45 : j = 45
  · subst e45
    refine zW.sw (t := swT 45) (st' := []) rfl rfl (by omega) ?_
    rw [show swT 45 = 3240 from by decide +kernel]
    exact l45_ok hm hL h hc hs hQ
  by_cases e46 : j = 46
  · subst e46
    refine zW.sw (t := swT 46) (st' := []) rfl rfl (by omega) ?_
    rw [show swT 46 = 3331 from by decide +kernel]
    exact l46_ok hm hL h hc hs hQ
  by_cases e47 : j = 47
  · subst e47
    refine zW.sw (t := swT 47) (st' := []) rfl rfl (by omega) ?_
    rw [show swT 47 = 3345 from by decide +kernel]
    exact l47_ok hm hL h hc hs hQ
  have h48 : 48 ≤ j := by omega
  have hd : ∀ j : Nat, j < 64 → 48 ≤ j → swT j = 3358 := by decide +kernel
  refine zW.sw (t := swT j) (st' := []) rfl rfl (by omega) ?_
  rw [hd j hj h48]
  exact hQ _ _ _ _ _ _ _ (Nat.le_add_right _ _) (Nat.le_add_right _ _) h
end LLOO
