/-! A subgroup's count divides the group's; the centre; kinds; a puzzle without rings; the exchange of two pieces. -/
theorem ct_spl (P K : Nat → Bool) : ∀ n, ct P n = ct (fun k => P k && K k) n + ct (fun k => P k && !K k) n
  | 0 => rfl
  | n + 1 => by
    show ct P n + (if P n then 1 else 0) = ct (fun k => P k && K k) n + (if (P n && K n) then 1 else 0) + (ct (fun k => P k && !K k) n + (if (P n && !K n) then 1 else 0))
    rw [ct_spl P K n]
    cases P n <;> cases K n <;> simp <;> omega
theorem ct_ex {P : Nat → Bool} {n : Nat} (h : ct P n ≠ 0) : ∃ i, i < n ∧ P i = true := Classical.byContradiction fun q => h (ct_z fun k hk => by
  cases e : P k with
  | false => rfl
  | true => exact absurd ⟨k, hk, e⟩ q)
def sbg (G H : (Nat → Nat) → Prop) : Prop := H (fun p => p) ∧ (∀ f g, G f → G g → H f → H g → H (fun p => f (g p))) ∧ ∀ f, G f → H f → H (vi 10 f)
section LAGR
variable {G H : (Nat → Nat) → Prop}
theorem sbg_1 (hG : isG G) (hH : sbg G H) : 1 ≤ ct (fun j => dc (H (stG G j))) (szG G 10) := by
  refine ct_pos (numG_lt hG hG.2.1 10 (Nat.le_refl _)) (dc_t.mpr ?_)
  rw [stG_num hG hG.2.1]
  exact hH.1
theorem lagr0 (hG : isG G) (hH : sbg G H) : ∀ c (P : Nat → Bool), ct P (szG G 10) ≤ c → (∀ i h, i < szG G 10 → P i = true → G h → H h → P (numG G (fun p => stG G i (h p)) 10) = true) → ∃ q, ct P (szG G 10) = q * ct (fun j => dc (H (stG G j))) (szG G 10) := by
  intro c
  induction c with
  | zero =>
    intro P hc _
    exact ⟨0, by omega⟩
  | succ c ih =>
    intro P hc hP
    by_cases e : ct P (szG G 10) = 0
    · exact ⟨0, by omega⟩
    obtain ⟨i, hi, hPi⟩ := ct_ex e
    have m1 := sbg_1 hG hH
    obtain ⟨gs, es⟩ := stG_sp hG hi
    generalize hs : stG G i = s at gs es
    have hps := hG.1 _ gs
    -- the coset of s
    have hK : ct (fun j => dc (∃ h, G h ∧ H h ∧ stG G j = fun p => s (h p))) (szG G 10) = ct (fun j => dc (H (stG G j))) (szG G 10) := by
      rw [← ct_perm (b := fun j => dc (∃ h, G h ∧ H h ∧ stG G j = fun p => s (h p))) (szG G 10) (fun j => numG G (fun p => s (stG G j p)) 10) (fun j hj => numG_lt hG (hG.2.2.1 _ _ gs (stG_sp hG hj).1) 10 (Nat.le_refl _)) (fun j k hj hk q => by
        have q2 := numG_inj hG (hG.2.2.1 _ _ gs (stG_sp hG hj).1) (hG.2.2.1 _ _ gs (stG_sp hG hk).1) q
        have q3 : stG G j = stG G k := funext fun p => pm_inj hps (congrFun q2 p)
        rw [← (stG_sp hG hj).2, ← (stG_sp hG hk).2, q3])]
      refine ct_cg fun j hj => dc_cg ?_
      have gj := (stG_sp hG hj).1
      rw [stG_num hG (hG.2.2.1 _ _ gs gj)]
      refine ⟨fun ⟨h, h1, h2, h3⟩ => ?_, fun h => ⟨_, gj, h, rfl⟩⟩
      have : stG G j = h := funext fun p => pm_inj hps (congrFun h3 p)
      rw [this]
      exact h2
    generalize hKd : (fun j => dc (∃ h, G h ∧ H h ∧ stG G j = fun p => s (h p))) = K at hK
    have Kt : ∀ j, K j = true ↔ ∃ h, G h ∧ H h ∧ stG G j = fun p => s (h p) := fun j => by rw [← hKd]; exact dc_t
    have KP : ∀ j, j < szG G 10 → K j = true → P j = true := fun j hj q => by
      obtain ⟨h, h1, h2, h3⟩ := (Kt j).mp q
      have := hP i h hi hPi h1 h2
      rw [hs, ← h3, (stG_sp hG hj).2] at this
      exact this
    have sp := ct_spl P K (szG G 10)
    have e1 : ct (fun k => P k && K k) (szG G 10) = ct K (szG G 10) := ct_cg fun j hj => by
      cases q : K j with
      | false => simp
      | true => simp [KP j hj q]
    rw [e1, hK] at sp
    obtain ⟨q, hq⟩ := ih (fun k => P k && !K k) (by omega) (fun j h hj hPj h1 h2 => by
      simp only [Bool.and_eq_true, Bool.not_eq_true'] at hPj ⊢
      obtain ⟨gj, ej⟩ := stG_sp hG hj
      refine ⟨hP j h hj hPj.1 h1 h2, ?_⟩
      cases q : K (numG G (fun p => stG G j (h p)) 10) with
      | false => rfl
      | true =>
        obtain ⟨h', k1, k2, k3⟩ := (Kt _).mp q
        rw [stG_num hG (hG.2.2.1 _ _ gj h1)] at k3
        have : K j = true := (Kt j).mpr ⟨fun p => h' (vi 10 h p), hG.2.2.1 _ _ k1 (hG.2.2.2 _ h1), hH.2.1 _ _ k1 (hG.2.2.2 _ h1) k2 (hH.2.2 _ h1 h2), funext fun p => by
          have := congrFun k3 (vi 10 h p)
          rw [← this, vi_r (hG.1 _ h1)]⟩
        rw [this] at hPj
        exact absurd hPj.2 (by decide))
    exact ⟨q + 1, by rw [sp, hq, Nat.succ_mul]; omega⟩
theorem lagr (hG : isG G) (hH : sbg G H) : szG G 10 % ct (fun j => dc (H (stG G j))) (szG G 10) = 0 := by
  obtain ⟨q, hq⟩ := lagr0 hG hH (szG G 10) (fun _ => true) (ct_le _ _) (fun _ _ _ _ _ _ => rfl)
  rw [ct_full (fun _ _ => rfl)] at hq
  have : szG G 10 % ct (fun j => dc (H (stG G j))) (szG G 10) = (q * ct (fun j => dc (H (stG G j))) (szG G 10)) % ct (fun j => dc (H (stG G j))) (szG G 10) := congrArg (· % ct (fun j => dc (H (stG G j))) (szG G 10)) hq
  rw [this]
  exact Nat.mul_mod_left _ _
end LAGR
theorem zCen_sbg {n r : Nat} {tn : Nat → Nat → Nat} {col st : Nat → Nat} (hz : zOK n r tn col st) : sbg (zG r tn) (zCen r tn) := by
  refine ⟨fun i _ => rfl, fun f g _ _ hf hg i hi => funext fun p => ?_, fun f gf hf i hi => funext fun p => ?_⟩
  · have a := congrFun (hf i hi) (g p)
    have b := congrFun (hg i hi) p
    show f (g (tn (2 * i) p)) = tn (2 * i) (f (g p))
    rw [show g (tn (2 * i) p) = tn (2 * i) (g p) from b]
    exact a
  · have hp := (zG_is hz).1 _ gf
    refine pm_inj hp ?_
    have a := congrFun (hf i hi) (vi 10 f p)
    show f (vi 10 f (tn (2 * i) p)) = f (tn (2 * i) (vi 10 f p))
    rw [vi_r hp]
    have a' : f (tn (2 * i) (vi 10 f p)) = tn (2 * i) (f (vi 10 f p)) := a
    rw [a', vi_r hp]
/-- all colours different: one state alone shows as solved -/
theorem sv_one {n r : Nat} {tn : Nat → Nat → Nat} {st : Nat → Nat} (hz : zOK n r tn (fun p => p) st) : ct (zSv r tn (fun p => p)) (szG (zG r tn) 10) = 1 := by
  have hG := zG_is hz
  have h0 := numG_lt hG hG.2.1 10 (Nat.le_refl _)
  have := ct_set (a := fun _ => false) (b := zSv r tn (fun p => p)) h0 rfl (dc_t.mpr fun p _ => by rw [stG_num hG hG.2.1]) (fun k hk hne => dc_f.mpr fun q => hne (by
    have e : stG (zG r tn) k = fun p => p := pm_ext (hG.1 _ (stG_sp hG hk).1) (pm_id 10) q
    rw [← (stG_sp hG hk).2, e]))
  rw [this, ct_z (fun _ _ => rfl)]
/-- no ring yet -/
theorem zG0_id {tn : Nat → Nat → Nat} {s : Nat → Nat} (h : zG 0 tn s) : s = fun p => p := by
  unfold zG at h
  rw [← zA_0 tn] at h
  exact Gm_none h
theorem zG0_enu (tn : Nat → Nat → Nat) : enu (zG 0 tn) (fun _ p => p) 1 := ⟨fun _ _ => Gm_id _, fun i j hi hj _ => by omega, fun s hs => ⟨0, by omega, (zG0_id hs).symm⟩⟩
theorem zG0_orb (tn : Nat → Nat → Nat) (n : Nat) : orbC (zG 0 tn) n = 0 := ct_z fun k _ => dc_f.mpr fun ⟨_, j, h1, g, h2, h3⟩ => by
  rw [zG0_id h2] at h3
  exact h1 h3.symm
/-- two pieces exchanged -/
theorem sw01 : ∀ p, p < 10 → swf (fun p => p) 0 1 p = if p = 0 then 1 else if p = 1 then 0 else p := by decide
theorem sw01_nst : nst (swf (fun p => p) 0 1) = 2 := by decide
theorem sw01_per {P : Nat} (h : isPer (swf (fun p => p) 0 1) P) : P = 2 := by
  have e1 : itf (swf (fun p => p) 0 1) 1 ≠ fun p => p := fun e => absurd (congrFun e 0) (by decide)
  have e2 : itf (swf (fun p => p) 0 1) 2 = fun p => p := funext fun p => by
    show swf (fun p => p) 0 1 (swf (fun p => p) 0 1 p) = p
    unfold swf
    by_cases c0 : p = 0
    · subst c0
      rfl
    · by_cases c1 : p = 1
      · subst c1
        rfl
      · rw [if_neg c0, if_neg c1, if_neg c0, if_neg c1]
  rcases Nat.lt_trichotomy P 2 with q | q | q
  · have : P = 1 := by have := h.1; omega
    rw [this] at h
    exact absurd h.2.2.1 e1
  · exact q
  · exact absurd e2 (h.2.2.2 2 (by decide) q)
theorem sw01_perd : perd (swf (fun p => p) 0 1) = 2 := sw01_per (perd_sp (pm_up (swf_pm (n := 2) (pm_id 2) (by decide) (by decide)) (by decide)))
/-- a turn that turns moves two at least -/
theorem two_mv {s g : Nat → Nat} (hs : pm 10 s) (hg : pm 10 g) (hne : g ≠ fun p => p) : 2 ≤ ct (fun q => !(s q == s (g q))) 10 := by
  have ex : ∃ p, p < 10 ∧ g p ≠ p := Classical.byContradiction fun q => hne (pm_ext hg (pm_id 10) fun p hp => Classical.byContradiction fun r => q ⟨p, hp, r⟩)
  obtain ⟨p, hp, h⟩ := ex
  have ne : ∀ q, g q ≠ q → (!(s q == s (g q))) = true := fun q hq => by
    have : s q ≠ s (g q) := fun e => hq (pm_inj hs e).symm
    simp [this]
  refine (ct_two hp (ne p h)).mpr ⟨g p, hg.1 p hp, h, ne _ fun e => h (pm_inj hg e)⟩
