/-! the law's calls over two objects' states -/
/-- what a call answers, by the number that the law gives it -/
noncomputable def sp (w x y z : Int32) (t : gT) : Option (gT × Int32) :=
  if w = 0 then (if wi x 0 255 = true then none else some (t, -9999002))
  else if w = 1 then none
  else if w = 2 then some (t, qAbout t x)
  else if w = 3 then some (t, qTold t x y)
  else if w = 4 then some (t, qOrd t x y)
  else if w = 5 then some (t, qAway t x y z)
  else if w = 6 then some (t, qClosed t x y)
  else if w = 7 then some (t, qRound t x)
  else if w = 8 then some (t, qSet t x)
  else if w = 9 then some (pCome t x y)
  else if w = 10 then some (pChange t x y z)
  else if w = 11 then some (pHoli t x y z)
  else if w = 12 then some (pDrop t x y)
  else if w = 13 then some (pSwap t x y)
  else if w = 14 then some (pSet t x y)
  else if w = 15 then (if t.1.1.1 1 ≤ 89900 then some (pDays t x) else none)
  else if w = 16 then some (pUndo t)
  else if w = 17 then some (t, qWhy t x)
  else if w = 18 then some (t, qCredit t x y)
  else if w = 19 then some (t, qClear t x)
  else if w = 20 then some (t, qOven t x)
  else if w = 21 then some (t, qBest t x)
  else if w = 22 then some (pKeep t x)
  else some (pBack t x)
theorem gCN1 {F : Option (gM × Int32)} {m : gM} : (gCN 1 ((m, 0) : gM × Nat) 1 F fun s x => gRN 1 s x) = F := by
  cases F with
  | none => rfl
  | some q => rfl
theorem spS {a : Nat} {m : gM} {F : Option (gM × Int32)} {q r : gT × Int32} (h : gOkc a m F q) (e : some q = some r) : ∃ m', (gCN 1 ((m, 0) : gM × Nat) 1 F fun s x => gRN 1 s x) = some (m', r.2) ∧ gI1 a r.1 m' ∧ Fr a 5693 m m' := by
  cases e
  rw [gCN1]
  exact h
theorem sp_ok {a : Nat} {t : gT} {m : gM} {w x y z : Int32} {r : gT × Int32} (h : gI1 a t m) (e : sp w x y z t = some r) : ∃ m', fL_call a w x y z m = some (m', r.2) ∧ gI1 a r.1 m' ∧ Fr a 5693 m m' := by
  unfold sp at e
  unfold fL_call fL_callB
  by_cases c0 : w = 0
  · rw [if_pos c0] at e ⊢
    cases hx : wi x 0 255 with
    | true => rw [hx, if_pos rfl] at e; cases e
    | false => rw [hx, if_neg (by decide)] at e; exact spS (x_appendN h x hx) e
  rw [if_neg c0] at e ⊢
  by_cases c1 : w = 1
  · rw [if_pos c1] at e
    cases e
  rw [if_neg c1] at e ⊢
  by_cases c2 : w = 2
  · rw [if_pos c2] at e ⊢
    exact spS (x_about h x) e
  rw [if_neg c2] at e ⊢
  by_cases c3 : w = 3
  · rw [if_pos c3] at e ⊢
    exact spS (x_told h x y) e
  rw [if_neg c3] at e ⊢
  by_cases c4 : w = 4
  · rw [if_pos c4] at e ⊢
    exact spS (x_ord h x y) e
  rw [if_neg c4] at e ⊢
  by_cases c5 : w = 5
  · rw [if_pos c5] at e ⊢
    exact spS (x_away h x y z) e
  rw [if_neg c5] at e ⊢
  by_cases c6 : w = 6
  · rw [if_pos c6] at e ⊢
    exact spS (x_closed h x y) e
  rw [if_neg c6] at e ⊢
  by_cases c7 : w = 7
  · rw [if_pos c7] at e ⊢
    exact spS (x_round h x) e
  rw [if_neg c7] at e ⊢
  by_cases c8 : w = 8
  · rw [if_pos c8] at e ⊢
    exact spS (x_setq h x) e
  rw [if_neg c8] at e ⊢
  by_cases c9 : w = 9
  · rw [if_pos c9] at e ⊢
    exact spS (x_come h x y) e
  rw [if_neg c9] at e ⊢
  by_cases c10 : w = 10
  · rw [if_pos c10] at e ⊢
    exact spS (x_change h x y z) e
  rw [if_neg c10] at e ⊢
  by_cases c11 : w = 11
  · rw [if_pos c11] at e ⊢
    exact spS (x_holi h x y z) e
  rw [if_neg c11] at e ⊢
  by_cases c12 : w = 12
  · rw [if_pos c12] at e ⊢
    exact spS (x_drop h x y) e
  rw [if_neg c12] at e ⊢
  by_cases c13 : w = 13
  · rw [if_pos c13] at e ⊢
    exact spS (x_swap h x y) e
  rw [if_neg c13] at e ⊢
  by_cases c14 : w = 14
  · rw [if_pos c14] at e ⊢
    exact spS (x_set h x y) e
  rw [if_neg c14] at e ⊢
  by_cases c15 : w = 15
  · rw [if_pos c15] at e ⊢
    by_cases hd : t.1.1.1 1 ≤ 89900
    · rw [if_pos hd] at e
      exact spS (x_days h hd x) e
    · rw [if_neg hd] at e
      cases e
  rw [if_neg c15] at e ⊢
  by_cases c16 : w = 16
  · rw [if_pos c16] at e ⊢
    exact spS (x_undo h) e
  rw [if_neg c16] at e ⊢
  by_cases c17 : w = 17
  · rw [if_pos c17] at e ⊢
    exact spS (x_why h x) e
  rw [if_neg c17] at e ⊢
  by_cases c18 : w = 18
  · rw [if_pos c18] at e ⊢
    exact spS (x_credit h x y) e
  rw [if_neg c18] at e ⊢
  by_cases c19 : w = 19
  · rw [if_pos c19] at e ⊢
    exact spS (x_clear h x) e
  rw [if_neg c19] at e ⊢
  by_cases c20 : w = 20
  · rw [if_pos c20] at e ⊢
    exact spS (x_oven h x) e
  rw [if_neg c20] at e ⊢
  by_cases c21 : w = 21
  · rw [if_pos c21] at e ⊢
    exact spS (x_best h x) e
  rw [if_neg c21] at e ⊢
  by_cases c22 : w = 22
  · rw [if_pos c22] at e ⊢
    exact spS (x_keep h x) e
  rw [if_neg c22] at e ⊢
  exact spS (x_back h x) e
/-! the two objects: one at 0, one at 5693 -/
def gI2 (s : gS) (m : gM) : Prop := gI1 0 s.1 m ∧ gI1 5693 s.2 m
def gsel (a : Nat) (s : gS) : gT := if a = 0 then s.1 else s.2
def gput (a : Nat) (s : gS) (t : gT) : gS := if a = 0 then (t, s.2) else (s.1, t)
theorem gI2_get {a : Nat} {s : gS} {m : gM} (h : gI2 s m) (ha : a = 0 ∨ a = 5693) : gI1 a (gsel a s) m := by
  rcases ha with r | r <;> subst r
  · exact h.1
  · exact h.2
theorem gI2_put {a : Nat} {s : gS} {t : gT} {m m' : gM} (h : gI2 s m) (ha : a = 0 ∨ a = 5693) (h1 : gI1 a t m') (hf : Fr a 5693 m m') : gI2 (gput a s t) m' := by
  rcases ha with r | r <;> subst r
  · exact ⟨h1, h.2.fr hf (by omega)⟩
  · exact ⟨h.1.fr hf (by omega), h1⟩
theorem gO4b : ∀ o ∈ gObs, o.2.1 = 4 → o.1 = 0 ∨ o.1 = 5693 := by decide +kernel
theorem gIn4 {u : gU} (hF : gFull u) {a : Nat} (h : gIn u a 4 0) : a = 0 ∨ a = 5693 := gO4b _ ((gIn_iff hF).mp h) rfl
def aPut (a : Nat) (s : gS) (q : Option (gT × Int32)) : Option (gS × Int32) := match q with | none => none | some q => some (gput a s q.1, q.2)
theorem aPut_some {a : Nat} {s : gS} {q : Option (gT × Int32)} {o : gS × Int32} (h : aPut a s q = some o) : ∃ r : gT × Int32, q = some r ∧ o = (gput a s r.1, r.2) := by
  cases q with
  | none => cases h
  | some r => exact ⟨r, rfl, (Option.some.inj h).symm⟩
noncomputable def aL_call (a : Nat) (w x y z : Int32) (s : gS) : Option (gS × Int32) := aPut a s (sp w x y z (gsel a s))
def aL_dues (a : Nat) (x f n w : Int32) (s : gS) : Option (gS × Int32) := some (s, qDue (gsel a s) x f n w)
def aL_closes (a : Nat) (x y z : Int32) (s : gS) : Option (gS × Int32) := aPut a s (some (pClose (gsel a s) x y z))
noncomputable def aL_doSimulate (a : Nat) (seed : Int64) (x : Int32) (s : gS) : Option (gS × Int32) := some (s, qSim (gsel a s) seed x)
def aL_doScript (a : Nat) (x : Int32) (z : Int64) (s : gS) : Option (gS × Int32) := if (x = 0 ∧ z = 0) ∨ (x = 1 ∧ 1000000 ≤ z) then some (s, -9999002) else none
def aL_thrown (x : Int32) (s : gS) : Option (gS × Int32) := some (s, if x = -9999001 then 1 else if x = -9999002 then 1 else if x = -9999003 then 1 else 0)
def aL_cell (L : Nat) (xs : Nat → Int32) (k : Int32) (s : gS) : Option (gS × Int32) := if 0 ≤ k then some (s, clV L xs k) else none
theorem gput_sel {a : Nat} {s : gS} : gput a s (gsel a s) = s := by
  unfold gput gsel
  by_cases c : a = 0
  · rw [if_pos c, if_pos c]
  · rw [if_neg c, if_neg c]
theorem taL_call (l : Launch) (hlt : l.stackTraces = false) (G : gX) (u : gU) (hF : gFull u) (a : Nat) (w x y z : Int32) (t : gS) (o : gS × Int32) (h : aL_call a w x y z t = some o) (ha : gIn u a 4 0) : gMetA gI2 l G u yL_call (.code yL_call cL_call 5 (some .int)) 10 191 1 [.ref a, .int w, .int x, .int y, .int z] t o.1 (some (.int o.2)) := by
  obtain ⟨r, h1, rfl⟩ := aPut_some h
  refine gMetA_map (fun m hI => ?_)
  have hab := gIn4 hF ha
  obtain ⟨m', e1, e2, e3⟩ := sp_ok (gI2_get hI hab) h1
  exact ⟨m', gI2_put hI hab e2 e3, tfL_call l hlt G u hF a w x y z m (m', r.2) e1 ha⟩
theorem taW {l : Launch} {G : gX} {u : gU} {y : MethodName} {cd : Cond} {fr lo : Nat} {as : List Value} {t t1 : gS} {r : Option Value} (h : ∀ m, gI2 t m → ∃ m1, gI2 t1 m1 ∧ gMetW l G u u y cd { frames := fr, cells := 1, slots := 6, locals := lo } as m m1 r) : gMetA gI2 l G u y cd fr lo 1 as t t1 r := gMetA_map (fun m hI => by
  obtain ⟨m1, h1, h2⟩ := h m hI
  exact ⟨m1, h1, gMetW_A h2⟩)
theorem taL_dues (l : Launch) (hlt : l.stackTraces = false) (G : gX) (u : gU) (hF : gFull u) (a : Nat) (x f n w : Int32) (t : gS) (o : gS × Int32) (h : aL_dues a x f n w t = some o) (ha : gIn u a 4 0) : gMetA gI2 l G u yL_dues (.codeWith yL_dues cL_dues 6 (some .int) [(0, 9, 10, 13), (0, 9, 15, 16)]) 8 127 1 [.ref a, .int x, .int f, .int n, .int w] t o.1 (some (.int o.2)) := by
  cases h
  refine taW (fun m hI => ?_)
  have hab := gIn4 hF ha
  obtain ⟨m', e1, e2, e3⟩ := x_due (gI2_get hI hab) x f n w
  have k := gI2_put hI hab e2 e3
  rw [gput_sel] at k
  exact ⟨m', k, tL_dues l hlt G u hF a x f n w m (m', _) e1 ha⟩
theorem taL_closes (l : Launch) (hlt : l.stackTraces = false) (G : gX) (u : gU) (hF : gFull u) (a : Nat) (x y z : Int32) (t : gS) (o : gS × Int32) (h : aL_closes a x y z t = some o) (ha : gIn u a 4 0) : gMetA gI2 l G u yL_closes (.codeWith yL_closes cL_closes 5 (some .int) [(0, 7, 8, 13)]) 9 167 1 [.ref a, .int x, .int y, .int z] t o.1 (some (.int o.2)) := by
  obtain ⟨r, h1, rfl⟩ := aPut_some h
  cases h1
  refine taW (fun m hI => ?_)
  have hab := gIn4 hF ha
  obtain ⟨m', e1, e2, e3⟩ := x_close (gI2_get hI hab) x y z
  exact ⟨m', gI2_put hI hab e2 e3, tL_closes l hlt G u hF a x y z m (m', _) e1 ha⟩
theorem taL_doSimulate (l : Launch) (hlt : l.stackTraces = false) (G : gX) (u : gU) (hF : gFull u) (a : Nat) (x : Int64) (y : Int32) (t : gS) (o : gS × Int32) (h : aL_doSimulate a x y t = some o) (ha : gIn u a 4 0) : gMetA gI2 l G u yL_doSimulate (.codeWith yL_doSimulate cL_doSimulate 5 (some .int) [(0, 6, 7, 16)]) 8 168 1 [.ref a, .long x, .int y] t o.1 (some (.int o.2)) := by
  cases h
  refine taW (fun m hI => ?_)
  have hab := gIn4 hF ha
  obtain ⟨m', e1, e2, e3⟩ := x_sim (gI2_get hI hab) x y
  have k := gI2_put hI hab e2 e3
  rw [gput_sel] at k
  exact ⟨m', k, tL_doSimulate l hlt G u hF a x y m (m', _) e1 ha⟩
theorem taL_doScript (l : Launch) (hlt : l.stackTraces = false) (G : gX) (u : gU) (hF : gFull u) (a : Nat) (x : Int32) (y : Int64) (t : gS) (o : gS × Int32) (h : aL_doScript a x y t = some o) (ha : gIn u a 4 0) : gMetA gI2 l G u yL_doScript (.codeWith yL_doScript cL_doScript 5 (some .int) [(0, 6, 7, 16)]) 8 171 1 [.ref a, .int x, .long y] t o.1 (some (.int o.2)) := by
  unfold aL_doScript at h
  split at h
  · rename_i hc
    cases h
    refine taW (fun m hI => ?_)
    have hab := gIn4 hF ha
    have hg : gOkc a m (fL_doScript a x y m) (gsel a t, -9999002) := by
      rcases hc with ⟨rfl, rfl⟩ | ⟨rfl, hz⟩
      · exact x_script0 (gI2_get hI hab)
      · exact x_script1 (gI2_get hI hab) y hz
    obtain ⟨m', e1, e2, e3⟩ := hg
    have k := gI2_put hI hab e2 e3
    rw [gput_sel] at k
    exact ⟨m', k, tL_doScript l hlt G u hF a x y m (m', _) e1 ha⟩
  · cases h
theorem taL_thrown (l : Launch) (hlt : l.stackTraces = false) (G : gX) (u : gU) (hF : gFull u) (x : Int32) (t : gS) (o : gS × Int32) (h : aL_thrown x t = some o) : gMetA gI2 l G u yL_thrown (.code yL_thrown cL_thrown 1 (some .boolean)) 0 0 0 [.int x] t o.1 (some (.int o.2)) := by
  cases h
  refine gMet_A (fun m => ?_)
  refine tL_thrown l G u hF x m (m, _) ?_
  unfold fL_thrown
  split
  · rfl
  · split
    · rfl
    · split <;> rfl
theorem taL_cell (l : Launch) (G : gX) (u : gU) {L : Nat} {xs : Nat → Int32} (hLe : G.2.2.1 30001 = L) (hxs : gXs G = xs) (hL : L < 2147483648) (k : Int32) (t : gS) (o : gS × Int32) (h : aL_cell L xs k t = some o) : gMetA gI2 l G u yL_cell (.code yL_cell cL_cell 2 (some .int)) 0 0 0 [.ref 30000, .int k] t o.1 (some (.int o.2)) := by
  subst hLe hxs
  unfold aL_cell at h
  split at h
  · rename_i hk
    cases h
    exact gMet_A (fun m => tL_cell l G u k hk hL m)
  · cases h
