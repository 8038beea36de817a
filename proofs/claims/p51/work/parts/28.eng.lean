/-! Steps of the walk, two at once: straight instructions, then one of another sort. -/
def zobs (ob : Option (Option Nat × Nat)) (M : zM) : Prop := match ob with
  | none => True
  | some (r, k) => zob M r k
theorem zobs_ok {ob : Option (Option Nat × Nat)} {M : zM} (h : zobs ob M) : ∀ r k, ob = some (r, k) → zob M r k := by
  intro r k e
  subst e
  exact h
section ENG
variable {Q : zO → zM → Prop} {y d c s pc : Nat} {ls : zLs} {st : List zV} {M : zM} {ps : List Prop} {pc' : Nat} {ls' : zLs} {st' : List zV} {M' : zM} {e : zE}
/-- .. then a return -/
theorem zW.gr (stops : List Nat) {p : Prop} {v : Option zV} (h : zgo 400 y stops pc ls st M [] = some (ps, pc', ls', st', M')) (h1 : zops y pc' = some e) (h2 : zq e (zret y) st' = some (p, v)) (hd : 1 ≤ d) (hp : zall ps) (hq : p) (k : Q (.inl v) M') : zW y d c s pc ls st M Q :=
  zW.go stops h hd hp (zW.ret h1 h2 hd hq k)
/-- .. then a branch -/
theorem zW.gb (stops : List Nat) {p : Prop} {t f : Nat} {st'' : List zV} (h : zgo 400 y stops pc ls st M [] = some (ps, pc', ls', st', M')) (h1 : zops y pc' = some e) (h2 : zb e st' = some (p, t, f, st'')) (hd : 1 ≤ d) (hp : zall ps) (ht : p → zW y d c s t ls' st'' M' Q) (hf : ¬ p → zW y d c s f ls' st'' M' Q) : zW y d c s pc ls st M Q :=
  zW.go stops h hd hp (zW.br h1 h2 hd ht hf)
/-- .. whose question is known -/
theorem zW.gbt (stops : List Nat) {p : Prop} {t f : Nat} {st'' : List zV} (h : zgo 400 y stops pc ls st M [] = some (ps, pc', ls', st', M')) (h1 : zops y pc' = some e) (h2 : zb e st' = some (p, t, f, st'')) (hd : 1 ≤ d) (hp : zall ps) (hq : p) (ht : zW y d c s t ls' st'' M' Q) : zW y d c s pc ls st M Q :=
  zW.go stops h hd hp (zW.br h1 h2 hd (fun _ => ht) (fun q => absurd hq q))
theorem zW.gbf (stops : List Nat) {p : Prop} {t f : Nat} {st'' : List zV} (h : zgo 400 y stops pc ls st M [] = some (ps, pc', ls', st', M')) (h1 : zops y pc' = some e) (h2 : zb e st' = some (p, t, f, st'')) (hd : 1 ≤ d) (hp : zall ps) (hq : ¬ p) (hf : zW y d c s f ls' st'' M' Q) : zW y d c s pc ls st M Q :=
  zW.go stops h hd hp (zW.br h1 h2 hd (fun q => absurd q hq) (fun _ => hf))
/-- .. then a switch -/
theorem zW.gs (stops : List Nat) {t : Nat} {st'' : List zV} (h : zgo 400 y stops pc ls st M [] = some (ps, pc', ls', st', M')) (h1 : zops y pc' = some e) (h2 : zsw e pc' st' = some (t, st'')) (hd : 1 ≤ d) (hp : zall ps) (k : zW y d c s t ls' st'' M' Q) : zW y d c s pc ls st M Q :=
  zW.go stops h hd hp (zW.sw h1 h2 hd k)
/-- .. then a call of a method that makes nothing -/
theorem zW.gz (stops : List Nat) {y' : Nat} {as st'' : List zV} {ob : Option (Option Nat × Nat)} (h : zgo 400 y stops pc ls st M [] = some (ps, pc', ls', st', M')) (h1 : zops y pc' = some e) (h2 : zp e st' = some (y', as, st'', ob)) (hd : 2 ≤ d) (hp : zall ps) (ho : zobs ob M') (hm : zmc y' = 0) (hn : zms y' = 0) (hc : c ≤ zmc y) (hs : s ≤ zms y)
    (k : zS y' (d - 1) as M' (zaft y d c s pc' e.2.1 ls' st'' Q)) : zW y d c s pc ls st M Q :=
  zW.go stops h (by omega) hp (zW.call h1 h2 hd (zobs_ok ho) (by rw [hm]; exact hc) (by rw [hn]; exact hs) k (fun o M1 q => by rw [hm, hn]; exact q))
/-- .. of any method -/
theorem zW.gc (stops : List Nat) {y' : Nat} {as st'' : List zV} {ob : Option (Option Nat × Nat)} (h : zgo 400 y stops pc ls st M [] = some (ps, pc', ls', st', M')) (h1 : zops y pc' = some e) (h2 : zp e st' = some (y', as, st'', ob)) (hd : 2 ≤ d) (hp : zall ps) (ho : zobs ob M') (hc : c + zmc y' ≤ zmc y) (hs : s + zms y' ≤ zms y)
    (k : zS y' (d - 1) as M' (zaft y d (c + zmc y') (s + zms y') pc' e.2.1 ls' st'' Q)) : zW y d c s pc ls st M Q :=
  zW.go stops h (by omega) hp (zW.call h1 h2 hd (zobs_ok ho) hc hs k (fun o M1 q => q))
/-- .. then a making -/
theorem zW.gm (stops : List Nat) {qs : List Prop} {nxt k m N : Nat} {st'' : List zV} {M'' : zM} (h : zgo 400 y stops pc ls st M [] = some (ps, pc', ls', st', M')) (h1 : zops y pc' = some e) (h2 : zmk e st' M' = some (qs, nxt, k, m, N, st'', M'')) (hd : 1 ≤ d) (hp : zall ps) (hq : zall qs) (hc : c + k ≤ zmc y) (hs : s + m ≤ zms y) (kk : zfresh M' (zN M') → zW y d (c + k) (s + m) nxt ls' st'' M'' Q) : zW y d c s pc ls st M Q :=
  zW.go stops h hd hp (zW.mk h1 h2 hd hq hc hs kk)
/-- .. then a throw -/
theorem zW.gt (stops : List Nat) {i : Nat} (h : zgo 400 y stops pc ls st M [] = some (ps, pc', ls', [], M')) (h1 : zops y pc' = some e) (h2 : e.1 = .new i) (h3 : 1000 ≤ e.2.2.1) (hd : 6 ≤ d) (hp : zall ps) (hc : c + 1 ≤ zmc y) (hs : s + 6 ≤ zms y) (hh : zhh y = []) (kk : ∀ N, zN M' ≤ N → Q (.inr (zthr (e.2.2.1 - 1000)).1) (zgrow M' N)) : zW y d c s pc ls st M Q :=
  zW.go stops h (by omega) hp (zW.thr h1 h2 h3 hd hc hs hh (fun N q _ => kk N q))
/-- a method's start -/
theorem zS.of {as : List zV} (h : zW y d 0 0 0 (zarg (zmaxL y) as) [] M Q) : zS y d as M Q := h
end ENG
