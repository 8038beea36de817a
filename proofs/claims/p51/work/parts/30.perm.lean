/-! Rearrangements of n places; iterates; counts. -/
def pm (n : Nat) (f : Nat → Nat) : Prop := (∀ p, p < n → f p < n) ∧ (∀ p q, p < n → q < n → f p = f q → p = q) ∧ ∀ p, n ≤ p → f p = p
theorem pm_id (n : Nat) : pm n (fun p => p) := ⟨fun _ h => h, fun _ _ _ _ h => h, fun _ _ => rfl⟩
theorem pm_comp {n : Nat} {f g : Nat → Nat} (hf : pm n f) (hg : pm n g) : pm n (fun p => f (g p)) :=
  ⟨fun p h => hf.1 _ (hg.1 p h), fun p q h1 h2 h => hg.2.1 p q h1 h2 (hf.2.1 _ _ (hg.1 p h1) (hg.1 q h2) h), fun p h => by
    show f (g p) = p
    rw [hg.2.2 p h, hf.2.2 p h]⟩
theorem pm_inj {n : Nat} {f : Nat → Nat} (hf : pm n f) {p q : Nat} (h : f p = f q) : p = q := by
  by_cases h1 : p < n <;> by_cases h2 : q < n
  · exact hf.2.1 p q h1 h2 h
  · have a := hf.1 p h1
    rw [h, hf.2.2 q (by omega)] at a
    omega
  · have a := hf.1 q h2
    rw [← h, hf.2.2 p (by omega)] at a
    omega
  · rw [hf.2.2 p (by omega), hf.2.2 q (by omega)] at h
    exact h
theorem pm_sur0 : ∀ (n : Nat) (f : Nat → Nat), (∀ p, p < n → f p < n) → (∀ p q, p < n → q < n → f p = f q → p = q) → ∀ q, q < n → ∃ p, p < n ∧ f p = q
  | 0, f, _, _, q, hq => absurd hq (Nat.not_lt_zero q)
  | n + 1, f, h1, h2, q, hq => by
    have hm := h1 n (by omega)
    by_cases e : q = f n
    · exact ⟨n, by omega, e.symm⟩
    · have ih := pm_sur0 n (fun p => if f p = n then f n else f p) (fun p hp => by
          have a := h1 p (by omega)
          show (if f p = n then f n else f p) < n
          split
          · rename_i c
            have b : f n ≠ n := fun c2 => by
              have := h2 p n (by omega) (by omega) (c.trans c2.symm)
              omega
            omega
          · omega) (fun p r hp hr h => by
          have h' : (if f p = n then f n else f p) = (if f r = n then f n else f r) := h
          split at h' <;> split at h'
          · rename_i c1 c2
            exact h2 p r (by omega) (by omega) (c1.trans c2.symm)
          · have := h2 n r (by omega) (by omega) h'
            omega
          · have := h2 p n (by omega) (by omega) h'
            omega
          · exact h2 p r (by omega) (by omega) h')
      by_cases e2 : q = n
      · have hne : f n < n := by omega
        obtain ⟨p, hp, k⟩ := ih (f n) hne
        have k' : (if f p = n then f n else f p) = f n := k
        split at k'
        · rename_i c
          exact ⟨p, by omega, c.trans e2.symm⟩
        · have := h2 p n (by omega) (by omega) k'
          omega
      · obtain ⟨p, hp, k⟩ := ih q (by omega)
        have k' : (if f p = n then f n else f p) = q := k
        split at k'
        · exact absurd k'.symm e
        · exact ⟨p, by omega, k'⟩
theorem pm_sur {n : Nat} {f : Nat → Nat} (hf : pm n f) {q : Nat} (hq : q < n) : ∃ p, p < n ∧ f p = q := pm_sur0 n f hf.1 hf.2.1 q hq
/-- the one that goes back -/
noncomputable def vi (n : Nat) (f : Nat → Nat) (q : Nat) : Nat := if q < n then Classical.epsilon (fun p => p < n ∧ f p = q) else q
theorem vi_sp {n : Nat} {f : Nat → Nat} (hf : pm n f) {q : Nat} (hq : q < n) : vi n f q < n ∧ f (vi n f q) = q := by
  unfold vi
  rw [if_pos hq]
  exact Classical.epsilon_spec (p := fun p => p < n ∧ f p = q) (pm_sur hf hq)
theorem vi_r {n : Nat} {f : Nat → Nat} (hf : pm n f) (q : Nat) : f (vi n f q) = q := by
  by_cases h : q < n
  · exact (vi_sp hf h).2
  · unfold vi
    rw [if_neg h, hf.2.2 q (by omega)]
theorem vi_l {n : Nat} {f : Nat → Nat} (hf : pm n f) (p : Nat) : vi n f (f p) = p := pm_inj hf (vi_r hf (f p))
theorem vi_pm {n : Nat} {f : Nat → Nat} (hf : pm n f) : pm n (vi n f) := ⟨fun p h => (vi_sp hf h).1, fun p q _ _ h => by
    have := congrArg f h
    rwa [vi_r hf, vi_r hf] at this, fun p h => if_neg (by omega)⟩
theorem pm_up {n m : Nat} {f : Nat → Nat} (hf : pm n f) (h : n ≤ m) : pm m f := ⟨fun p hp => by
    by_cases e : p < n
    · have := hf.1 p e
      omega
    · rw [hf.2.2 p (by omega)]
      exact hp, fun p q _ _ k => pm_inj hf k, fun p hp => hf.2.2 p (by omega)⟩
theorem vi_up {n m : Nat} {f : Nat → Nat} (hf : pm n f) (h : n ≤ m) : vi m f = vi n f := funext fun q => pm_inj hf ((vi_r (pm_up hf h) q).trans (vi_r hf q).symm)
theorem pm_nb {f : Nat → Nat} (hf : pm 10 f) : nb f := fun p hp => Nat.lt_trans (hf.1 p hp) (by decide)
theorem rwN_cg {f g : Nat → Nat} : ∀ {n : Nat}, (∀ p, p < n → f p = g p) → rwN f n = rwN g n
  | 0, _ => rfl
  | n + 1, h => by
    show rwN f n * 16 + f n = rwN g n * 16 + g n
    rw [rwN_cg (fun p hp => h p (by omega)), h n (by omega)]
theorem Rw_cg {f g : Nat → Nat} (h : ∀ p, p < 10 → f p = g p) : Rw f = Rw g := by
  unfold Rw
  rw [rwN_cg h]
theorem Rw_inj {f g : Nat → Nat} (hf : nb f) (hg : nb g) (h : Rw f = Rw g) : ∀ p, p < 10 → f p = g p := by
  intro p hp
  have h1 := rwN_lt hf
  have h2 := rwN_lt hg
  have e : rwN f 10 = rwN g 10 := by
    unfold Rw at h
    rw [iL_eq (by omega) (by omega) (by omega) (by omega)] at h
    omega
  rw [← rwN_dig hf hp, ← rwN_dig hg hp, e]
theorem Rw_eq {f g : Nat → Nat} (hf : nb f) (hg : nb g) : Rw f = Rw g ↔ ∀ p, p < 10 → f p = g p := ⟨Rw_inj hf hg, Rw_cg⟩
theorem Rw_pm {f g : Nat → Nat} (hf : pm 10 f) (hg : pm 10 g) : Rw f = Rw g ↔ f = g := ⟨fun h => funext fun p => by
    by_cases hp : p < 10
    · exact Rw_inj (pm_nb hf) (pm_nb hg) h p hp
    · rw [hf.2.2 p (by omega), hg.2.2 p (by omega)], fun h => by rw [h]⟩
theorem Rw_id : Rw (fun p => p) = iL 4886718345 := by decide +kernel
theorem Rw_n0 {f : Nat → Nat} (hf : pm 10 f) : ¬ Rw f = iL 0 := by
  intro h
  have e : Rw (fun _ => 0) = iL 0 := by decide +kernel
  have h1 := Rw_inj (pm_nb hf) (fun _ _ => by decide) (h.trans e.symm)
  have h2 := hf.2.1 0 1 (by decide) (by decide) ((h1 0 (by decide)).trans (h1 1 (by decide)).symm)
  omega
theorem zld_id : zldL 4032 = 4886718345 := by decide +kernel
/-- how many below n -/
def ct (b : Nat → Bool) : Nat → Nat
  | 0 => 0
  | n + 1 => ct b n + (if b n then 1 else 0)
theorem ct_le (b : Nat → Bool) : ∀ n, ct b n ≤ n
  | 0 => Nat.le_refl _
  | n + 1 => by
    have := ct_le b n
    show ct b n + (if b n then 1 else 0) ≤ n + 1
    split <;> omega
theorem ct_cg {a b : Nat → Bool} : ∀ {n : Nat}, (∀ k, k < n → a k = b k) → ct a n = ct b n
  | 0, _ => rfl
  | n + 1, h => by
    show ct a n + (if a n then 1 else 0) = ct b n + (if b n then 1 else 0)
    rw [ct_cg (fun k hk => h k (by omega)), h n (by omega)]
theorem ct_more {b : Nat → Bool} {n : Nat} : ∀ {m : Nat}, (∀ k, n ≤ k → k < n + m → b k = false) → ct b (n + m) = ct b n
  | 0, _ => rfl
  | m + 1, h => by
    show ct b (n + m) + (if b (n + m) then 1 else 0) = ct b n
    rw [ct_more (fun k h1 h2 => h k h1 (by omega)), h (n + m) (by omega) (by omega)]
    rfl
/-- done again and again -/
def itf (f : Nat → Nat) : Nat → Nat → Nat
  | 0 => fun p => p
  | k + 1 => fun p => itf f k (f p)
theorem itf_pm {n : Nat} {f : Nat → Nat} (hf : pm n f) : ∀ k, pm n (itf f k)
  | 0 => pm_id n
  | k + 1 => show pm n (fun p => itf f k (f p)) from pm_comp (itf_pm hf k) hf
theorem itf_add (f : Nat → Nat) (a : Nat) : ∀ b p, itf f (a + b) p = itf f a (itf f b p)
  | 0, p => rfl
  | b + 1, p => itf_add f a b (f p)
theorem itf_s (f : Nat → Nat) (k p : Nat) : itf f (k + 1) p = f (itf f k p) := by
  rw [Nat.add_comm, itf_add]
  rfl
theorem pw2 : ∀ k : Nat, k < 31 → (iI 1 <<< (iI (k : Int) &&& 31)) = iI ((2 ^ k : Nat) : Int) := by decide +kernel
theorem pw2i {k : Nat} (h : k < 31) : (iI 1 <<< (iI (k : Int) &&& 31)) = iI ((2 ^ k : Nat) : Int) := pw2 k h
/-! back, countUnlike, cycle -/
theorem back_lp {d : Nat} {f : Nat → Nat} {M : zM} {Q : zO → zM → Prop} (hd : 2 ≤ d) (hf : pm 10 f) (hQ : Q (.inl (some (zl (Rw (vi 10 f))))) M) : ∀ n k, k + n = 10 → ∀ (r : Int64) (x : Int32) (h : Nat → Nat), nb h → (∀ p, p < k → h (f p) = p) → r = Rw h → x = iI (k : Int) →
    zW 70 d 0 0 5 [some (zl (Rw f)), none, some (zl r), none, some (zi x)] [] M Q
  | 0, k, hk, r, x, h, hn, hh, e1, e2 => by
    subst e1; subst e2
    obtain rfl : k = 10 := by omega
    refine zW.gbt [] rfl rfl rfl (by omega) trivial ?_ (zW.gr [] rfl rfl rfl (by omega) trivial trivial ?_)
    · rw [zcn_I, iI_le (by omega) (by omega) (by omega) (by omega)]
      omega
    · rw [show Rw h = Rw (vi 10 f) from Rw_cg fun q hq => by
        have a := vi_sp hf hq
        rw [← hh _ a.1, a.2]]
      exact hQ
  | n + 1, k, hk, r, x, h, hn, hh, e1, e2 => by
    subst e1; subst e2
    refine zW.gbf [] rfl rfl rfl (by omega) trivial ?_ (zW.gz [] rfl rfl rfl hd trivial trivial rfl rfl (Nat.le_refl _) (Nat.le_refl _) ?_)
    · rw [zcn_I, iI_le (by omega) (by omega) (by omega) (by omega)]
      omega
    · refine at_ok (f := f) (p := k) (by omega) (pm_nb hf) (by omega) rfl rfl ?_
      refine zW.gz [] rfl rfl rfl hd trivial trivial rfl rfl (Nat.le_refl _) (Nat.le_refl _) ?_
      refine with_ok (f := h) (p := f k) (v := k) (by omega) hn (hf.1 k (by omega)) (by omega) rfl rfl rfl ?_
      refine zW.go [5] rfl (by omega) trivial ?_
      refine back_lp hd hf hQ n (k + 1) (by omega) _ _ (fu h (f k) k) ?_ ?_ rfl ?_
      · intro p hp
        unfold fu
        split
        · omega
        · exact hn p hp
      · intro p hp
        unfold fu
        split
        · rename_i c
          exact (hf.2.1 p k (by omega) (by omega) c).symm
        · rename_i c
          exact hh p (by
            have : p ≠ k := fun e => c (by rw [e])
            omega)
      · rw [zcn_I, iI_add]
        rfl
theorem back_ok {d : Nat} {f : Nat → Nat} {o : Int64} {M : zM} {Q : zO → zM → Prop} (hd : 2 ≤ d) (hf : pm 10 f) (e1 : o = Rw f) (hQ : Q (.inl (some (zl (Rw (vi 10 f))))) M) : zS 70 d [zl o] M Q := by
  subst e1
  refine zW.go [5] rfl (by omega) trivial ?_
  exact back_lp hd hf hQ 10 0 rfl _ _ (fun _ => 0) (fun _ _ => Nat.succ_pos 15) (fun p h => absurd h (Nat.not_lt_zero p)) (by
    have e : Rw (fun _ => 0) = iL 0 := by decide +kernel
    rw [e]
    rfl) rfl
theorem unlike_lp {d : Nat} {f g : Nat → Nat} {M : zM} {Q : zO → zM → Prop} (hd : 2 ≤ d) (hf : nb f) (hg : nb g) (hQ : Q (.inl (some (zi (iI (ct (fun p => !(f p == g p)) 10 : Nat))))) M) : ∀ n k, k + n = 10 → ∀ (r x : Int32), r = iI (ct (fun p => !(f p == g p)) k : Nat) → x = iI (k : Int) →
    zW 71 d 0 0 6 [some (zl (Rw f)), none, some (zl (Rw g)), none, some (zi r), some (zi x)] [] M Q
  | 0, k, hk, r, x, e1, e2 => by
    subst e1; subst e2
    obtain rfl : k = 10 := by omega
    refine zW.gbt [] rfl rfl rfl (by omega) trivial ?_ (zW.gr [] rfl rfl rfl (by omega) trivial trivial hQ)
    rw [zcn_I, iI_le (by omega) (by omega) (by omega) (by omega)]
    omega
  | n + 1, k, hk, r, x, e1, e2 => by
    subst e1; subst e2
    refine zW.gbf [] rfl rfl rfl (by omega) trivial ?_ (zW.gz [] rfl rfl rfl hd trivial trivial rfl rfl (Nat.le_refl _) (Nat.le_refl _) ?_)
    · rw [zcn_I, iI_le (by omega) (by omega) (by omega) (by omega)]
      omega
    · have a1 := hf k (by omega)
      have a2 := hg k (by omega)
      refine at_ok (f := f) (p := k) (by omega) hf (by omega) rfl rfl ?_
      refine zW.gz [] rfl rfl rfl hd trivial trivial rfl rfl (Nat.le_refl _) (Nat.le_refl _) ?_
      refine at_ok (f := g) (p := k) (by omega) hg (by omega) rfl rfl ?_
      refine zW.gb [] rfl rfl rfl (by omega) trivial (fun h => ?_) (fun h => ?_) <;> rw [iI_eq (by omega) (by omega) (by omega) (by omega)] at h
      · refine zW.go [6] rfl (by omega) trivial ?_
        refine unlike_lp hd hf hg hQ n (k + 1) (by omega) _ _ ?_ ?_
        · have b : (!(f k == g k)) = false := by
            rw [show f k = g k by omega]
            simp
          rw [zcn_I, iI_add, ct, b]
          rfl
        · rw [zcn_I, iI_add]
          rfl
      · refine zW.go [6] rfl (by omega) trivial ?_
        refine unlike_lp hd hf hg hQ n (k + 1) (by omega) _ _ ?_ ?_
        · have b : (!(f k == g k)) = true := by
            have : f k ≠ g k := by omega
            simp [this]
          rw [zcn_I, iI_add, ct, b]
          rfl
        · rw [zcn_I, iI_add]
          rfl
theorem unlike_ok {d : Nat} {f g : Nat → Nat} {o q : Int64} {M : zM} {Q : zO → zM → Prop} (hd : 2 ≤ d) (hf : nb f) (hg : nb g) (e1 : o = Rw f) (e2 : q = Rw g) (hQ : Q (.inl (some (zi (iI (ct (fun p => !(f p == g p)) 10 : Nat))))) M) : zS 71 d [zl o, zl q] M Q := by
  subst e1; subst e2
  refine zW.go [6] rfl (by omega) trivial ?_
  exact unlike_lp hd hf hg hQ 10 0 rfl _ _ rfl rfl
/-- how often until all is as at first, P times, at most 2520 -/
theorem cycle_lp {d P : Nat} {f : Nat → Nat} {M : zM} {Q : zO → zM → Prop} (hd : 3 ≤ d) (hf : pm 10 f) (hP : P ≤ 2520) (h1 : itf f P = fun p => p) (h2 : ∀ k, 1 ≤ k → k < P → itf f k ≠ fun p => p) (hQ : Q (.inl (some (zi (iI (P : Nat))))) M) : ∀ n k, k + n = P → 1 ≤ k → ∀ (r : Int64) (x : Int32), r = Rw (itf f k) → x = iI (k : Int) →
    zW 72 d 0 0 5 [some (zl (Rw f)), none, some (zl r), none, some (zi x)] [] M Q
  | 0, k, hk, h3, r, x, e1, e2 => by
    subst e1; subst e2
    obtain rfl : k = P := by omega
    refine zW.gbt [] rfl rfl rfl (by omega) trivial ?_ (zW.gr [] rfl rfl rfl (by omega) trivial trivial hQ)
    rw [h1, Rw_id, zld_id, lg_cmp_eq]
    rfl
  | n + 1, k, hk, h3, r, x, e1, e2 => by
    subst e1; subst e2
    refine zW.gbf [] rfl rfl rfl (by omega) trivial ?_ (zW.gbf [] rfl rfl rfl (by omega) trivial ?_ ?_)
    · rw [zld_id, lg_cmp_eq]
      intro e
      have e' : Rw (itf f k) = Rw (fun p => p) := e.trans Rw_id.symm
      rw [Rw_pm (itf_pm hf k) (pm_id 10)] at e'
      exact h2 k h3 (by omega) e'
    · rw [zcn_I, iI_le (by omega) (by omega) (by omega) (by omega)]
      omega
    · refine zW.gz [] rfl rfl rfl (by omega) trivial trivial rfl rfl (Nat.le_refl _) (Nat.le_refl _) ?_
      refine through_ok (f := itf f k) (g := f) (by omega) (pm_nb (itf_pm hf k)) hf.1 rfl rfl ?_
      refine zW.go [5] rfl (by omega) trivial ?_
      refine cycle_lp hd hf hP h1 h2 hQ n (k + 1) (by omega) (by omega) _ _ rfl ?_
      rw [zcn_I, iI_add]
      rfl
theorem cycle_ok {d P : Nat} {f : Nat → Nat} {o : Int64} {M : zM} {Q : zO → zM → Prop} (hd : 3 ≤ d) (hf : pm 10 f) (hP1 : 1 ≤ P) (hP : P ≤ 2520) (h1 : itf f P = fun p => p) (h2 : ∀ k, 1 ≤ k → k < P → itf f k ≠ fun p => p) (e1 : o = Rw f) (hQ : Q (.inl (some (zi (iI (P : Nat))))) M) : zS 72 d [zl o] M Q := by
  subst e1
  refine zW.go [5] rfl (by omega) trivial ?_
  exact cycle_lp hd hf hP h1 h2 hQ (P - 1) 1 (by omega) (by omega) _ _ rfl rfl
