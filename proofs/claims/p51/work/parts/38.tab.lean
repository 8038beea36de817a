/-! Chains of stabilisers as tables: what falls through, and that it is the group. -/
abbrev zTb : Type := Nat → Nat → Option (Nat → Nat)
def tW (tb : zTb) : Prop := (∀ k j u, tb k j = some u → k < 10 ∧ j < 10 ∧ pm 10 u ∧ (∀ i, i < k → u i = i) ∧ u k = j) ∧ ∀ k, k < 10 → tb k k = some (fun p => p)
/-- falls through the last n levels -/
def Fl (tb : zTb) : Nat → (Nat → Nat) → Prop
  | 0, _ => True
  | n + 1, r => ∃ u, tb (9 - n) (r (9 - n)) = some u ∧ Fl tb n (fun p => vi 10 u (r p))
def Tp (tb : zTb) : Nat → (Nat → Nat) → Prop
  | 0, r => r = fun p => p
  | n + 1, r => ∃ u j r', tb (9 - n) j = some u ∧ Tp tb n r' ∧ r = fun p => u (r' p)
theorem Tp_fix {tb : zTb} (hw : tW tb) : ∀ {n : Nat} {r : Nat → Nat}, n ≤ 10 → Tp tb n r → pm 10 r ∧ ∀ i, i < 10 - n → r i = i
  | 0, r, _, h => by
    cases h
    exact ⟨pm_id 10, fun _ _ => rfl⟩
  | n + 1, r, hn, h => by
    obtain ⟨u, j, r', h1, h2, rfl⟩ := h
    obtain ⟨a1, a2⟩ := Tp_fix hw (by omega) h2
    obtain ⟨b1, b2, b3, b4, b5⟩ := hw.1 _ _ _ h1
    refine ⟨pm_comp b3 a1, fun i hi => ?_⟩
    show u (r' i) = i
    rw [a2 i (by omega), b4 i (by omega)]
theorem Fl_T {tb : zTb} (hw : tW tb) : ∀ {n : Nat} {r : Nat → Nat}, n ≤ 10 → pm 10 r → (∀ i, i < 10 - n → r i = i) → (Fl tb n r ↔ Tp tb n r)
  | 0, r, _, hr, hf => by
    refine ⟨fun _ => ?_, fun _ => trivial⟩
    show r = fun p => p
    funext p
    by_cases hp : p < 10
    · exact hf p (by omega)
    · exact hr.2.2 p (by omega)
  | n + 1, r, hn, hr, hf => by
    constructor
    · rintro ⟨u, h1, h2⟩
      obtain ⟨b1, b2, b3, b4, b5⟩ := hw.1 _ _ _ h1
      have hp : pm 10 (fun p => vi 10 u (r p)) := pm_comp (vi_pm b3) hr
      have hx : ∀ i, i < 10 - n → vi 10 u (r i) = i := by
        intro i hi
        refine pm_inj b3 ?_
        rw [vi_r b3]
        by_cases e : i = 9 - n
        · rw [e, b5]
        · rw [hf i (by omega), b4 i (by omega)]
      refine ⟨u, _, _, h1, (Fl_T hw (by omega) hp hx).mp h2, ?_⟩
      funext p
      exact (vi_r b3 (r p)).symm
    · rintro ⟨u, j, r', h1, h2, rfl⟩
      obtain ⟨b1, b2, b3, b4, b5⟩ := hw.1 _ _ _ h1
      obtain ⟨a1, a2⟩ := Tp_fix hw (by omega) h2
      refine ⟨u, ?_, ?_⟩
      · show tb (9 - n) (u (r' (9 - n))) = some u
        rw [a2 _ (by omega), b5]
        exact h1
      · have e : (fun p => vi 10 u (u (r' p))) = r' := funext fun p => vi_l b3 _
        rw [e]
        exact (Fl_T hw (by omega) a1 a2).mpr h2
theorem Fl_dn {tb : zTb} (hw : tW tb) {n : Nat} {r : Nat → Nat} (hn : n < 10) (h : Fl tb (n + 1) r) (hr : r (9 - n) = 9 - n) : Fl tb n r := by
  obtain ⟨u, h1, h2⟩ := h
  rw [hr, hw.2 _ (by omega)] at h1
  cases h1
  rw [vi_id] at h2
  exact h2
theorem Fl_up {tb : zTb} (hw : tW tb) {n : Nat} {r : Nat → Nat} (hn : n < 10) (h : Fl tb n r) (hr : r (9 - n) = 9 - n) : Fl tb (n + 1) r := by
  refine ⟨fun p => p, by rw [hr]; exact hw.2 _ (by omega), ?_⟩
  rw [vi_id]
  exact h
theorem Fl_dns {tb : zTb} (hw : tW tb) {n : Nat} {r : Nat → Nat} (hr : ∀ i, i < 10 - n → r i = i) : ∀ m, n + m ≤ 10 → Fl tb (n + m) r → Fl tb n r
  | 0, _, h => h
  | m + 1, hm, h => Fl_dns hw hr m (by omega) (Fl_dn hw (by omega) h (hr _ (by omega)))
theorem Fl_ups {tb : zTb} (hw : tW tb) {n : Nat} {r : Nat → Nat} (hr : ∀ i, i < 10 - n → r i = i) (h : Fl tb n r) : ∀ m, n + m ≤ 10 → Fl tb (n + m) r
  | 0, _ => h
  | m + 1, hm => Fl_up hw (n := n + m) (by omega) (Fl_ups hw hr h m (by omega)) (hr _ (by omega))
theorem Fl_all {tb : zTb} (hw : tW tb) {n : Nat} (hn : n ≤ 10) {r : Nat → Nat} (hr : ∀ i, i < 10 - n → r i = i) : Fl tb 10 r ↔ Fl tb n r := by
  have e : n + (10 - n) = 10 := by omega
  constructor
  · intro h
    rw [← e] at h
    exact Fl_dns hw hr _ (by omega) h
  · intro h
    have := Fl_ups hw hr h (10 - n) (by omega)
    rwa [e] at this
theorem Fl_id {tb : zTb} (hw : tW tb) : Fl tb 10 (fun p => p) := (Fl_all hw (n := 0) (by decide) (fun _ _ => rfl)).mpr trivial
theorem Fl_ent {tb : zTb} (hw : tW tb) {k j : Nat} {u : Nat → Nat} (h : tb k j = some u) : Fl tb 10 u := by
  obtain ⟨b1, b2, b3, b4, b5⟩ := hw.1 _ _ _ h
  refine (Fl_all hw (n := 10 - k) (by omega) (fun i hi => b4 i (by omega))).mpr ?_
  rw [show 10 - k = (9 - k) + 1 by omega]
  have e9 : 9 - (9 - k) = k := by omega
  refine ⟨u, by rw [e9, b5]; exact h, ?_⟩
  have e : (fun p => vi 10 u (u p)) = fun p => p := funext fun p => vi_l b3 _
  rw [e]
  exact (Fl_all hw (n := 9 - k) (by omega) (fun _ _ => rfl)).mp (Fl_id hw)
/-- more entries: what fell, falls -/
def tLe (tb tb' : zTb) : Prop := ∀ k j u, tb k j = some u → tb' k j = some u
theorem tLe_tr {a b c : zTb} (h1 : tLe a b) (h2 : tLe b c) : tLe a c := fun k j u h => h2 k j u (h1 k j u h)
theorem Fl_le {tb tb' : zTb} (h : tLe tb tb') : ∀ {n : Nat} {r : Nat → Nat}, Fl tb n r → Fl tb' n r
  | 0, _, _ => trivial
  | n + 1, r, ⟨u, h1, h2⟩ => ⟨u, h _ _ _ h1, Fl_le h h2⟩
def tPairs (tb : zTb) : Prop := ∀ k j u k' j' v, tb k j = some u → tb k' j' = some v → Fl tb 10 (fun p => u (v p))
theorem Tp_mul {tb : zTb} (hw : tW tb) (hp : tPairs tb) : ∀ {n : Nat}, n ≤ 10 → ∀ {f g : Nat → Nat}, Tp tb n f → Tp tb n g → Tp tb n (fun p => f (g p))
  | 0, _, f, g, hf, hg => by
    cases hf
    cases hg
    rfl
  | n + 1, hn, f, g, hf, hg => by
    have pair : ∀ k j u j' v, 9 - n ≤ k → tb k j = some u → tb (9 - n) j' = some v → Tp tb (n + 1) (fun p => u (v p)) := by
      intro k j u j' v hk h1 h2
      obtain ⟨a1, a2, a3, a4, a5⟩ := hw.1 _ _ _ h1
      obtain ⟨b1, b2, b3, b4, b5⟩ := hw.1 _ _ _ h2
      have hfix : ∀ i, i < 10 - (n + 1) → u (v i) = i := fun i hi => by rw [b4 i (by omega), a4 i (by omega)]
      exact (Fl_T hw hn (pm_comp a3 b3) hfix).mp ((Fl_all hw hn hfix).mp (hp _ _ _ _ _ _ h1 h2))
    have ent : ∀ k j u, 9 - n ≤ k → tb k j = some u → ∀ z, Tp tb (n + 1) z → Tp tb (n + 1) (fun p => u (z p)) := by
      intro k j u hk h1 z hz
      obtain ⟨v, j', y, h2, h3, rfl⟩ := hz
      obtain ⟨w, j2, y2, q1, q2, q3⟩ := pair k j u j' v hk h1 h2
      refine ⟨w, j2, fun p => y2 (y p), q1, Tp_mul hw hp (by omega) q2 h3, ?_⟩
      funext p
      exact congrFun q3 (y p)
    have many : ∀ m, m ≤ n + 1 → ∀ f, Tp tb m f → ∀ z, Tp tb (n + 1) z → Tp tb (n + 1) (fun p => f (z p)) := by
      intro m
      induction m with
      | zero =>
        intro _ f hf z hz
        cases hf
        exact hz
      | succ m ih =>
        intro hm f hf z hz
        obtain ⟨u, j, r', h1, h2, rfl⟩ := hf
        exact ent _ j u (by omega) h1 _ (ih (by omega) r' h2 z hz)
    exact many (n + 1) (Nat.le_refl _) f hf g hg
/-- a table whose pairs all fall is the group -/
theorem Fl_Gm {tb : zTb} {A : (Nat → Nat) → Prop} (hw : tW tb) (hp : tPairs tb) (hA : ∀ g, A g → pm 10 g) (hg : ∀ g, A g → Fl tb 10 g) (hm : ∀ k j u, tb k j = some u → Gm A u) {f : Nat → Nat} : Gm A f ↔ pm 10 f ∧ Fl tb 10 f := by
  have fix0 : ∀ r : Nat → Nat, ∀ i, i < 10 - 10 → r i = i := fun r i hi => by omega
  constructor
  · intro h
    have hf := Gm_pm hA h
    refine ⟨hf, (Fl_T hw (Nat.le_refl _) hf (fix0 f)).mpr ?_⟩
    exact h (Tp tb 10) ((Fl_T hw (Nat.le_refl _) (pm_id 10) (fix0 _)).mp (Fl_id hw)) (fun g k => (Fl_T hw (Nat.le_refl _) (hA g k) (fix0 g)).mp (hg g k)) (fun f g a b => Tp_mul hw hp (Nat.le_refl _) a b)
  · rintro ⟨hf, h⟩
    have h := (Fl_T hw (Nat.le_refl _) hf (fix0 f)).mp h
    have key : ∀ n, n ≤ 10 → ∀ r, Tp tb n r → Gm A r := by
      intro n
      induction n with
      | zero =>
        intro _ r h
        cases h
        exact Gm_id A
      | succ n ih =>
        intro hn r h
        obtain ⟨u, j, r', h1, h2, rfl⟩ := h
        exact Gm_mul (hm _ _ _ h1) (ih (by omega) r' h2)
    exact key 10 (Nat.le_refl _) f h
/-! the group's numbers -/
def isG (G : (Nat → Nat) → Prop) : Prop := (∀ f, G f → pm 10 f) ∧ G (fun p => p) ∧ (∀ f g, G f → G g → G (fun p => f (g p))) ∧ ∀ f, G f → G (vi 10 f)
theorem Gm_isG {A : (Nat → Nat) → Prop} (hA : ∀ g, A g → pm 10 g) : isG (Gm A) := ⟨fun _ => Gm_pm hA, Gm_id A, fun _ _ => Gm_mul, fun _ => Gm_vi hA⟩
def orb (G : (Nat → Nat) → Prop) (k j : Nat) : Prop := ∃ h, G h ∧ (∀ i, i < k → h i = i) ∧ h k = j
noncomputable def cntG (G : (Nat → Nat) → Prop) (k : Nat) : Nat := ct (fun j => dc (orb G k j)) 10
noncomputable def szG (G : (Nat → Nat) → Prop) : Nat → Nat
  | 0 => 1
  | n + 1 => szG G n * cntG G (9 - n)
def low (G : (Nat → Nat) → Prop) (s : Nat → Nat) (k v : Nat) : Prop := ∃ g, G g ∧ (∀ i, i < k → g i = s i) ∧ g k = v
noncomputable def clG (G : (Nat → Nat) → Prop) (s : Nat → Nat) (k : Nat) : Nat := ct (fun v => dc (low G s k v)) (s k)
noncomputable def numG (G : (Nat → Nat) → Prop) (s : Nat → Nat) : Nat → Nat
  | 0 => 0
  | n + 1 => clG G s (9 - n) * szG G n + numG G s n
theorem orb_tb {tb : zTb} {A : (Nat → Nat) → Prop} (hw : tW tb) (hp : tPairs tb) (hA : ∀ g, A g → pm 10 g) (hg : ∀ g, A g → Fl tb 10 g) (hm : ∀ k j u, tb k j = some u → Gm A u) {k j : Nat} (hk : k < 10) : (∃ u, tb k j = some u) ↔ orb (Gm A) k j := by
  constructor
  · rintro ⟨u, h⟩
    obtain ⟨b1, b2, b3, b4, b5⟩ := hw.1 _ _ _ h
    exact ⟨u, hm _ _ _ h, b4, b5⟩
  · rintro ⟨h, h1, h2, h3⟩
    have h4 := ((Fl_Gm hw hp hA hg hm).mp h1).2
    have h5 := (Fl_all hw (n := 10 - k) (by omega) (fun i hi => h2 i (by omega))).mp h4
    rw [show 10 - k = (9 - k) + 1 by omega] at h5
    obtain ⟨u, h6, -⟩ := h5
    rw [show 9 - (9 - k) = k by omega, h3] at h6
    exact ⟨u, h6⟩
theorem orb_lt {G : (Nat → Nat) → Prop} (hG : isG G) {k j : Nat} (hk : k < 10) (h : orb G k j) : k ≤ j ∧ j < 10 := by
  obtain ⟨f, h1, h2, h3⟩ := h
  have hf := hG.1 f h1
  refine ⟨?_, by rw [← h3]; exact hf.1 k hk⟩
  by_cases c : j < k
  · have := pm_inj hf (h3.trans (h2 j c).symm)
    omega
  · omega
theorem orb_self {G : (Nat → Nat) → Prop} (hG : isG G) (k : Nat) : orb G k k := ⟨fun p => p, hG.2.1, fun _ _ => rfl, rfl⟩
theorem low_orb {G : (Nat → Nat) → Prop} (hG : isG G) {s : Nat → Nat} (hs : G s) {k j : Nat} : low G s k (s j) ↔ orb G k j := by
  have hps := hG.1 s hs
  constructor
  · rintro ⟨g, h1, h2, h3⟩
    refine ⟨fun p => vi 10 s (g p), hG.2.2.1 _ _ (hG.2.2.2 s hs) h1, fun i hi => ?_, ?_⟩
    · show vi 10 s (g i) = i
      rw [h2 i hi, vi_l hps]
    · show vi 10 s (g k) = j
      rw [h3, vi_l hps]
  · rintro ⟨h, h1, h2, h3⟩
    refine ⟨fun p => s (h p), hG.2.2.1 _ _ hs h1, fun i hi => ?_, ?_⟩
    · show s (h i) = s i
      rw [h2 i hi]
    · show s (h k) = s j
      rw [h3]
theorem low_ct {G : (Nat → Nat) → Prop} (hG : isG G) {s : Nat → Nat} (hs : G s) (k : Nat) : ct (fun v => dc (low G s k v)) 10 = cntG G k := by
  have hps := hG.1 s hs
  rw [← ct_perm 10 s hps.1 hps.2.1]
  exact ct_cg fun j _ => dc_cg (low_orb hG hs)
theorem clG_lt {G : (Nat → Nat) → Prop} (hG : isG G) {s : Nat → Nat} (hs : G s) {k : Nat} (hk : k < 10) : clG G s k < cntG G k := by
  have hps := hG.1 s hs
  have hv := hps.1 k hk
  rw [← low_ct hG hs]
  unfold clG
  obtain ⟨m, hm⟩ : ∃ m, 10 = s k + 1 + m := ⟨9 - s k, by omega⟩
  rw [hm]
  have h1 : ct (fun v => dc (low G s k v)) (s k + 1) = ct (fun v => dc (low G s k v)) (s k) + 1 := by
    show _ + (if dc (low G s k (s k)) then 1 else 0) = _
    rw [dc_t.mpr ⟨s, hs, fun _ _ => rfl, rfl⟩]
    rfl
  have h2 : ∀ (b : Nat → Bool) n m, ct b n ≤ ct b (n + m) := by
    intro b n m
    induction m with
    | zero => exact Nat.le_refl _
    | succ m ih => exact Nat.le_trans ih (Nat.le_add_right _ _)
  have h3 := h2 (fun v => dc (low G s k v)) (s k + 1) m
  omega
theorem numG_lt {G : (Nat → Nat) → Prop} (hG : isG G) {s : Nat → Nat} (hs : G s) : ∀ n, n ≤ 10 → numG G s n < szG G n
  | 0, _ => Nat.one_pos
  | n + 1, hn => by
    have h1 := numG_lt hG hs n (by omega)
    have h2 := clG_lt hG hs (k := 9 - n) (by omega)
    show clG G s (9 - n) * szG G n + numG G s n < szG G n * cntG G (9 - n)
    have h3 : (clG G s (9 - n) + 1) * szG G n ≤ cntG G (9 - n) * szG G n := Nat.mul_le_mul_right _ h2
    rw [Nat.succ_mul] at h3
    rw [Nat.mul_comm (szG G n)]
    omega
theorem clG_cg {G : (Nat → Nat) → Prop} {s t : Nat → Nat} {k : Nat} (h : ∀ i, i ≤ k → s i = t i) : clG G s k = clG G t k := by
  unfold clG
  rw [h k (Nat.le_refl _)]
  refine ct_cg fun v _ => dc_cg ⟨fun ⟨g, a, b, c⟩ => ⟨g, a, fun i hi => (b i hi).trans (h i (by omega)), c⟩, fun ⟨g, a, b, c⟩ => ⟨g, a, fun i hi => (b i hi).trans (h i (by omega)).symm, c⟩⟩
theorem numG_lex {G : (Nat → Nat) → Prop} (hG : isG G) {s t : Nat → Nat} (hs : G s) (ht : G t) {n : Nat} (hn : n < 10) (h1 : ∀ i, i < 9 - n → s i = t i) (h2 : s (9 - n) < t (9 - n)) : ∀ m, n + 1 + m ≤ 10 → numG G s (n + 1 + m) < numG G t (n + 1 + m)
  | 0, _ => by
    show clG G s (9 - n) * szG G n + numG G s n < clG G t (9 - n) * szG G n + numG G t n
    have a1 := numG_lt hG hs n (by omega)
    have a2 : clG G s (9 - n) + 1 ≤ clG G t (9 - n) := by
      unfold clG
      have e : ∀ v, dc (low G t (9 - n) v) = dc (low G s (9 - n) v) := fun v => dc_cg ⟨fun ⟨g, a, b, c⟩ => ⟨g, a, fun i hi => (b i hi).trans (h1 i hi).symm, c⟩, fun ⟨g, a, b, c⟩ => ⟨g, a, fun i hi => (b i hi).trans (h1 i hi), c⟩⟩
      have e2 : (fun v => dc (low G t (9 - n) v)) = fun v => dc (low G s (9 - n) v) := funext e
      rw [e2]
      obtain ⟨m, hm⟩ : ∃ m, t (9 - n) = s (9 - n) + 1 + m := ⟨t (9 - n) - s (9 - n) - 1, by omega⟩
      rw [hm]
      have b1 : ct (fun v => dc (low G s (9 - n) v)) (s (9 - n) + 1) = ct (fun v => dc (low G s (9 - n) v)) (s (9 - n)) + 1 := by
        show _ + (if dc (low G s (9 - n) (s (9 - n))) then 1 else 0) = _
        rw [dc_t.mpr ⟨s, hs, fun _ _ => rfl, rfl⟩]
        rfl
      have b2 : ∀ (b : Nat → Bool) n m, ct b n ≤ ct b (n + m) := by
        intro b n m
        induction m with
        | zero => exact Nat.le_refl _
        | succ m ih => exact Nat.le_trans ih (Nat.le_add_right _ _)
      have b3 := b2 (fun v => dc (low G s (9 - n) v)) (s (9 - n) + 1) m
      omega
    have a3 : (clG G s (9 - n) + 1) * szG G n ≤ clG G t (9 - n) * szG G n := Nat.mul_le_mul_right _ a2
    rw [Nat.succ_mul] at a3
    omega
  | m + 1, hm => by
    have ih := numG_lex hG hs ht hn h1 h2 m (by omega)
    show clG G s (9 - (n + 1 + m)) * szG G (n + 1 + m) + numG G s (n + 1 + m) < clG G t (9 - (n + 1 + m)) * szG G (n + 1 + m) + numG G t (n + 1 + m)
    rw [clG_cg (s := s) (t := t) (k := 9 - (n + 1 + m)) (fun i hi => h1 i (by omega))]
    omega
theorem lex_tri {s t : Nat → Nat} (h : ∃ p, p < 10 ∧ s p ≠ t p) : ∃ n, n < 10 ∧ (∀ i, i < 9 - n → s i = t i) ∧ (s (9 - n) < t (9 - n) ∨ t (9 - n) < s (9 - n)) := by
  have key : ∀ k, k ≤ 10 → (∀ i, i < k → s i = t i) ∨ ∃ n, n < 10 ∧ (∀ i, i < 9 - n → s i = t i) ∧ (s (9 - n) < t (9 - n) ∨ t (9 - n) < s (9 - n)) := by
    intro k
    induction k with
    | zero => intro _; exact Or.inl fun i hi => absurd hi (Nat.not_lt_zero i)
    | succ k ih =>
      intro hk
      rcases ih (by omega) with h1 | h1
      · by_cases e : s k = t k
        · refine Or.inl fun i hi => ?_
          by_cases c : i = k
          · rw [c, e]
          · exact h1 i (by omega)
        · have e9 : 9 - (9 - k) = k := by omega
          exact Or.inr ⟨9 - k, by omega, by rw [e9]; exact h1, by rw [e9]; omega⟩
      · exact Or.inr h1
  rcases key 10 (Nat.le_refl _) with h1 | h1
  · obtain ⟨p, hp, hne⟩ := h
    exact absurd (h1 p hp) hne
  · exact h1
theorem numG_inj {G : (Nat → Nat) → Prop} (hG : isG G) {s t : Nat → Nat} (hs : G s) (ht : G t) (h : numG G s 10 = numG G t 10) : s = t := by
  have hps := hG.1 s hs
  have hpt := hG.1 t ht
  by_cases c : ∃ p, p < 10 ∧ s p ≠ t p
  · obtain ⟨n, hn, h1, h2⟩ := lex_tri c
    have e : n + 1 + (9 - n) = 10 := by omega
    rcases h2 with h2 | h2
    · have := numG_lex hG hs ht hn h1 h2 (9 - n) (by omega)
      rw [e] at this
      omega
    · have := numG_lex hG ht hs hn (fun i hi => (h1 i hi).symm) h2 (9 - n) (by omega)
      rw [e] at this
      omega
  · funext p
    by_cases hp : p < 10
    · exact Classical.byContradiction fun q => c ⟨p, hp, q⟩
    · rw [hps.2.2 p (by omega), hpt.2.2 p (by omega)]
theorem rwN_lex {s t : Nat → Nat} (hs : nb s) {k : Nat} (h1 : ∀ i, i < k → s i = t i) (h2 : s k < t k) : ∀ m, k + 1 + m ≤ 10 → rwN s (k + 1 + m) < rwN t (k + 1 + m)
  | 0, _ => by
    show rwN s k * 16 + s k < rwN t k * 16 + t k
    rw [rwN_cg h1]
    omega
  | m + 1, hm => by
    have ih := rwN_lex hs h1 h2 m (by omega)
    have := hs (k + 1 + m) (by omega)
    show rwN s (k + 1 + m) * 16 + s (k + 1 + m) < rwN t (k + 1 + m) * 16 + t (k + 1 + m)
    omega
theorem num_row {G : (Nat → Nat) → Prop} (hG : isG G) {s t : Nat → Nat} (hs : G s) (ht : G t) (h : numG G s 10 < numG G t 10) : rwN s 10 < rwN t 10 := by
  have hps := hG.1 s hs
  have hpt := hG.1 t ht
  by_cases c : ∃ p, p < 10 ∧ s p ≠ t p
  · obtain ⟨n, hn, h1, h2⟩ := lex_tri c
    rcases h2 with h2 | h2
    · have := rwN_lex (pm_nb hps) h1 h2 n (by omega)
      rw [show 9 - n + 1 + n = 10 by omega] at this
      exact this
    · have := numG_lex hG ht hs hn (fun i hi => (h1 i hi).symm) h2 (9 - n) (by omega)
      rw [show n + 1 + (9 - n) = 10 by omega] at this
      omega
  · have : s = t := by
      funext p
      by_cases hp : p < 10
      · exact Classical.byContradiction fun q => c ⟨p, hp, q⟩
      · rw [hps.2.2 p (by omega), hpt.2.2 p (by omega)]
    rw [this] at h
    omega
