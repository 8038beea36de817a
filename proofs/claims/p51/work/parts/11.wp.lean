/-! Rules of zW, ahead of any machine: it holds for a weaker end; straight stretches at once; a branch, a return, a call, a making. -/
theorem zle_refl (l : zLs) : zle l l := ⟨rfl, fun _ _ h => h⟩
theorem zle_trans {a b c : zLs} (h1 : zle a b) (h2 : zle b c) : zle a c := ⟨h1.1.trans h2.1, fun i v h => h2.2 i v (h1.2 i v h)⟩
theorem zF_mono {P P' : Nat → Nat → Nat → Nat → Nat → zLs → List zV → zM → (zO → zM → Prop) → Prop} (hP : ∀ y d c s pc ls st M Q, P y d c s pc ls st M Q → P' y d c s pc ls st M Q) {y d c s pc : Nat} {ls : zLs} {st : List zV} {M : zM} {Q : zO → zM → Prop} (h : zF P y d c s pc ls st M Q) : zF P' y d c s pc ls st M Q := by
  obtain ⟨l1, h1, h2, e, h3, h⟩ := h
  refine ⟨l1, h1, h2, e, h3, ?_⟩
  rcases h with ⟨ps, pc', ls', st', M', a1, a2, a3⟩ | ⟨p, t, f, st', a1, a2, a3⟩ | ⟨t, st', a1, a2⟩ | ⟨p, v, a1, a2, a3⟩ | ⟨y', as, st', ob, Q1, a1, a2, a3, a4, a5, a6, a7⟩ | ⟨ps, nxt, k, m0, N, st', M', a1, a2, a3, a4, a5⟩ | ⟨i, a1, a2, a3, a4, a5, a6, a7, a8⟩
  · exact Or.inl ⟨ps, pc', ls', st', M', a1, a2, hP _ _ _ _ _ _ _ _ _ a3⟩
  · exact Or.inr (Or.inl ⟨p, t, f, st', a1, fun q => hP _ _ _ _ _ _ _ _ _ (a2 q), fun q => hP _ _ _ _ _ _ _ _ _ (a3 q)⟩)
  · exact Or.inr (Or.inr (Or.inl ⟨t, st', a1, hP _ _ _ _ _ _ _ _ _ a2⟩))
  · exact Or.inr (Or.inr (Or.inr (Or.inl ⟨p, v, a1, a2, a3⟩)))
  · refine Or.inr (Or.inr (Or.inr (Or.inr (Or.inl ⟨y', as, st', ob, Q1, a1, a2, a3, a4, a5, hP _ _ _ _ _ _ _ _ _ a6, fun o M' q => ?_⟩))))
    have q' := a7 o M' q
    cases o with
    | inl v => exact hP _ _ _ _ _ _ _ _ _ q'
    | inr x =>
      dsimp only at q' ⊢
      split at q'
      · exact fun r => hP _ _ _ _ _ _ _ _ _ (q' r)
      · exact q'
  · exact Or.inr (Or.inr (Or.inr (Or.inr (Or.inr (Or.inl ⟨ps, nxt, k, m0, N, st', M', a1, a2, a3, a4, fun q => hP _ _ _ _ _ _ _ _ _ (a5 q)⟩)))))
  · exact Or.inr (Or.inr (Or.inr (Or.inr (Or.inr (Or.inr ⟨i, a1, a2, a3, a4, a5, a6, a7, a8⟩)))))
theorem zW.fold {y d c s pc : Nat} {ls : zLs} {st : List zV} {M : zM} {Q : zO → zM → Prop} (h : zF zW y d c s pc ls st M Q) : zW y d c s pc ls st M Q := fun P hP => hP _ _ _ _ _ _ _ _ _ (zF_mono (fun _ _ _ _ _ _ _ _ _ k => k P hP) h)
theorem zW.unfold {y d c s pc : Nat} {ls : zLs} {st : List zV} {M : zM} {Q : zO → zM → Prop} (h : zW y d c s pc ls st M Q) : zF zW y d c s pc ls st M Q := h (zF zW) fun _ _ _ _ _ _ _ _ _ k => zF_mono (fun _ _ _ _ _ _ _ _ _ q => zW.fold q) k
theorem zW.mono {y d c s pc : Nat} {ls : zLs} {st : List zV} {M : zM} {Q Q' : zO → zM → Prop} (h : zW y d c s pc ls st M Q) (hQ : ∀ o M', Q o M' → Q' o M') : zW y d c s pc ls st M Q' := by
  refine h (fun y d c s pc ls st M Q => ∀ Q', (∀ o M', Q o M' → Q' o M') → zW y d c s pc ls st M Q') (fun y d c s pc ls st M Q k Q' hQ => zW.fold ?_) Q' hQ
  obtain ⟨l1, h1, h2, e, h3, k⟩ := k
  refine ⟨l1, h1, h2, e, h3, ?_⟩
  rcases k with ⟨ps, pc', ls', st', M', a1, a2, a3⟩ | ⟨p, t, f, st', a1, a2, a3⟩ | ⟨t, st', a1, a2⟩ | ⟨p, v, a1, a2, a3⟩ | ⟨y', as, st', ob, Q1, a1, a2, a3, a4, a5, a6, a7⟩ | ⟨ps, nxt, k, m0, N, st', M', a1, a2, a3, a4, a5⟩ | ⟨i, a1, a2, a3, a4, a5, a6, a7, a8⟩
  · exact Or.inl ⟨ps, pc', ls', st', M', a1, a2, a3 _ hQ⟩
  · exact Or.inr (Or.inl ⟨p, t, f, st', a1, fun q => a2 q _ hQ, fun q => a3 q _ hQ⟩)
  · exact Or.inr (Or.inr (Or.inl ⟨t, st', a1, a2 _ hQ⟩))
  · exact Or.inr (Or.inr (Or.inr (Or.inl ⟨p, v, a1, a2, hQ _ _ a3⟩)))
  · refine Or.inr (Or.inr (Or.inr (Or.inr (Or.inl ⟨y', as, st', ob, Q1, a1, a2, a3, a4, a5, a6 Q1 (fun _ _ q => q), fun o M' q => ?_⟩))))
    have q' := a7 o M' q
    cases o with
    | inl v => exact q' _ hQ
    | inr x =>
      dsimp only at q' ⊢
      split at q'
      · exact fun r => q' r _ hQ
      · exact hQ _ _ q'
  · exact Or.inr (Or.inr (Or.inr (Or.inr (Or.inr (Or.inl ⟨ps, nxt, k, m0, N, st', M', a1, a2, a3, a4, fun q => a5 q _ hQ⟩)))))
  · exact Or.inr (Or.inr (Or.inr (Or.inr (Or.inr (Or.inr ⟨i, a1, a2, a3, a4, a5, a6, a7, fun N q r => hQ _ _ (a8 N q r)⟩)))))
theorem zS.mono {y d : Nat} {as : List zV} {M : zM} {Q Q' : zO → zM → Prop} (h : zS y d as M Q) (hQ : ∀ o M', Q o M' → Q' o M') : zS y d as M Q' := zW.mono h hQ
/-- fewer locals known -/
theorem zW.less {y d c s pc : Nat} {ls ls' : zLs} {st : List zV} {M : zM} {Q : zO → zM → Prop} (hl : zle ls' ls) (h : zW y d c s pc ls' st M Q) : zW y d c s pc ls st M Q := by
  obtain ⟨l1, h1, h2⟩ := h.unfold
  exact zW.fold ⟨l1, zle_trans h1 hl, h2⟩
def zmem (k : Nat) : List Nat → Bool
  | [] => false
  | a :: t => bif Nat.beq k a then true else zmem k t
/-- straight instructions, until one that isn't, or a place of 'stops': what must hold (the last first), and where it comes to -/
noncomputable def zgo : Nat → Nat → List Nat → Nat → zLs → List zV → zM → List Prop → Option zC
  | 0, _, _, pc, ls, st, M, acc => some (acc, pc, ls, st, M)
  | n + 1, y, stops, pc, ls, st, M, acc => match zops y pc with
    | none => none
    | some e => match zx e ls st M with
      | none => some (acc, pc, ls, st, M)
      | some (ps, pc', ls', st', M') => match ps with
        | [] => bif zmem pc' stops then some (acc, pc', ls', st', M') else zgo n y stops pc' ls' st' M' acc
        | [p] => bif zmem pc' stops then some (p :: acc, pc', ls', st', M') else zgo n y stops pc' ls' st' M' (p :: acc)
        | ps => bif zmem pc' stops then some (zall ps :: acc, pc', ls', st', M') else zgo n y stops pc' ls' st' M' (zall ps :: acc)
theorem zall_cons {p : Prop} {l : List Prop} : zall (p :: l) ↔ p ∧ zall l := by
  cases l with
  | nil => exact ⟨fun h => ⟨h, trivial⟩, fun h => h.1⟩
  | cons a t => exact Iff.rfl
theorem zgo_ok {Q : zO → zM → Prop} {y d c s : Nat} (hd : 1 ≤ d) {stops : List Nat} : ∀ (n pc : Nat) (ls : zLs) (st : List zV) (M : zM) (acc ps : List Prop) (pc' : Nat) (ls' : zLs) (st' : List zV) (M' : zM), zgo n y stops pc ls st M acc = some (ps, pc', ls', st', M') → zall ps → zW y d c s pc' ls' st' M' Q → zall acc ∧ zW y d c s pc ls st M Q
  | 0, pc, ls, st, M, acc, ps, pc', ls', st', M', h, hp, k => by
    simp only [zgo, Option.some.injEq, Prod.mk.injEq] at h
    obtain ⟨rfl, rfl, rfl, rfl, rfl⟩ := h
    exact ⟨hp, k⟩
  | n + 1, pc, ls, st, M, acc, ps, pc', ls', st', M', h, hp, k => by
    unfold zgo at h
    split at h
    · cases h
    · rename_i e he
      split at h
      · simp only [Option.some.injEq, Prod.mk.injEq] at h
        obtain ⟨rfl, rfl, rfl, rfl, rfl⟩ := h
        exact ⟨hp, k⟩
      · rename_i ps1 pc1 ls1 st1 M1 hx
        have key : ∀ (acc1 : List Prop), (bif zmem pc1 stops then some (acc1, pc1, ls1, st1, M1) else zgo n y stops pc1 ls1 st1 M1 acc1) = some (ps, pc', ls', st', M') → zall acc1 ∧ zW y d c s pc1 ls1 st1 M1 Q := by
          intro acc1 h1
          cases hz : zmem pc1 stops
          · rw [hz] at h1
            exact zgo_ok hd n _ _ _ _ _ _ _ _ _ _ h1 hp k
          · rw [hz] at h1
            simp only [cond_true, Option.some.injEq, Prod.mk.injEq] at h1
            obtain ⟨rfl, rfl, rfl, rfl, rfl⟩ := h1
            exact ⟨hp, k⟩
        have stp : zall ps1 → zW y d c s pc1 ls1 st1 M1 Q → zW y d c s pc ls st M Q := fun q1 q2 => zW.fold ⟨ls, zle_refl _, hd, e, he, Or.inl ⟨ps1, pc1, ls1, st1, M1, hx, q1, q2⟩⟩
        split at h
        · obtain ⟨b1, b2⟩ := key _ h
          exact ⟨b1, stp trivial b2⟩
        · obtain ⟨b1, b2⟩ := key _ h
          obtain ⟨b3, b4⟩ := zall_cons.mp b1
          exact ⟨b4, stp b3 b2⟩
        · obtain ⟨b1, b2⟩ := key _ h
          obtain ⟨b3, b4⟩ := zall_cons.mp b1
          exact ⟨b4, stp b3 b2⟩
theorem zW.go {Q : zO → zM → Prop} {y d c s : Nat} (stops : List Nat) {pc : Nat} {ls : zLs} {st : List zV} {M : zM} {ps : List Prop} {pc' : Nat} {ls' : zLs} {st' : List zV} {M' : zM} (h : zgo 400 y stops pc ls st M [] = some (ps, pc', ls', st', M')) (hd : 1 ≤ d) (hp : zall ps) (k : zW y d c s pc' ls' st' M' Q) : zW y d c s pc ls st M Q :=
  (zgo_ok hd _ _ _ _ _ _ _ _ _ _ _ h hp k).2
theorem zW.br {Q : zO → zM → Prop} {y d c s pc : Nat} {ls : zLs} {st : List zV} {M : zM} {e : zE} {p : Prop} {t f : Nat} {st' : List zV} (h1 : zops y pc = some e) (h2 : zb e st = some (p, t, f, st')) (hd : 1 ≤ d) (ht : p → zW y d c s t ls st' M Q) (hf : ¬ p → zW y d c s f ls st' M Q) : zW y d c s pc ls st M Q :=
  zW.fold ⟨ls, zle_refl _, hd, e, h1, Or.inr (Or.inl ⟨p, t, f, st', h2, ht, hf⟩)⟩
theorem zW.sw {Q : zO → zM → Prop} {y d c s pc : Nat} {ls : zLs} {st : List zV} {M : zM} {e : zE} {t : Nat} {st' : List zV} (h1 : zops y pc = some e) (h2 : zsw e pc st = some (t, st')) (hd : 1 ≤ d) (k : zW y d c s t ls st' M Q) : zW y d c s pc ls st M Q :=
  zW.fold ⟨ls, zle_refl _, hd, e, h1, Or.inr (Or.inr (Or.inl ⟨t, st', h2, k⟩))⟩
theorem zW.ret {Q : zO → zM → Prop} {y d c s pc : Nat} {ls : zLs} {st : List zV} {M : zM} {e : zE} {p : Prop} {v : Option zV} (h1 : zops y pc = some e) (h2 : zq e (zret y) st = some (p, v)) (hd : 1 ≤ d) (hp : p) (hq : Q (.inl v) M) : zW y d c s pc ls st M Q :=
  zW.fold ⟨ls, zle_refl _, hd, e, h1, Or.inr (Or.inr (Or.inr (Or.inl ⟨p, v, h2, hp, hq⟩)))⟩
/-- what comes behind a call that answers, or throws -/
def zaft (y d c s pc nxt : Nat) (ls : zLs) (st : List zV) (Q : zO → zM → Prop) (o : zO) (M : zM) : Prop := match o with
  | .inl v => zW y d c s nxt ls (v.toList ++ st) M Q
  | .inr x => match zhand pc x (zhs y) with
    | some h => ∀ q, zW y d c s h ls [zr (some q)] M Q
    | none => Q (.inr x) M
theorem zW.call {Q Q1 : zO → zM → Prop} {y d c s pc : Nat} {ls : zLs} {st : List zV} {M : zM} {e : zE} {y' : Nat} {as st' : List zV} {ob : Option (Option Nat × Nat)} (h1 : zops y pc = some e) (h2 : zp e st = some (y', as, st', ob)) (hd : 2 ≤ d) (ho : ∀ r k, ob = some (r, k) → zob M r k) (hc : c + zmc y' ≤ zmc y) (hs : s + zms y' ≤ zms y) (hk : zS y' (d - 1) as M Q1)
    (kk : ∀ o M', Q1 o M' → zaft y d (c + zmc y') (s + zms y') pc e.2.1 ls st' Q o M') : zW y d c s pc ls st M Q := by
  refine zW.fold ⟨ls, zle_refl _, by omega, e, h1, Or.inr (Or.inr (Or.inr (Or.inr (Or.inl ⟨y', as, st', ob, Q1, h2, ho, hc, hs, hd, hk, fun o M' q => ?_⟩))))⟩
  have q' := kk o M' q
  cases o with
  | inl v => exact q'
  | inr x => exact q'
theorem zW.mk {Q : zO → zM → Prop} {y d c s pc : Nat} {ls : zLs} {st : List zV} {M : zM} {e : zE} {ps : List Prop} {nxt k m N : Nat} {st' : List zV} {M' : zM} (h1 : zops y pc = some e) (h2 : zmk e st M = some (ps, nxt, k, m, N, st', M')) (hd : 1 ≤ d) (hp : zall ps) (hc : c + k ≤ zmc y) (hs : s + m ≤ zms y) (kk : zfresh M (zN M) → zW y d (c + k) (s + m) nxt ls st' M' Q) : zW y d c s pc ls st M Q :=
  zW.fold ⟨ls, zle_refl _, hd, e, h1, Or.inr (Or.inr (Or.inr (Or.inr (Or.inr (Or.inl ⟨ps, nxt, k, m, N, st', M', h2, hp, hc, hs, kk⟩)))))⟩
theorem zW.thr {Q : zO → zM → Prop} {y d c s pc : Nat} {ls : zLs} {M : zM} {e : zE} {i : Nat} (h1 : zops y pc = some e) (h2 : e.1 = .new i) (h3 : 1000 ≤ e.2.2.1) (hd : 6 ≤ d) (hc : c + 1 ≤ zmc y) (hs : s + 6 ≤ zms y) (hh : zhh y = []) (kk : ∀ N, zN M ≤ N → (∀ a, zN M ≤ a → zfresh M a) → Q (.inr (zthr (e.2.2.1 - 1000)).1) (zgrow M N)) : zW y d c s pc ls [] M Q :=
  zW.fold ⟨ls, zle_refl _, by omega, e, h1, Or.inr (Or.inr (Or.inr (Or.inr (Or.inr (Or.inr ⟨i, h2, h3, rfl, hd, hc, hs, hh, kk⟩)))))⟩
