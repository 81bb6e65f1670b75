/-! the law over states, one step at a time -/
def Ok (F : Option (gS × Int32)) (P : gS → Int32 → Prop) : Prop := ∃ o, F = some o ∧ P o.1 o.2
section OK
variable {P : gS → Int32 → Prop}
theorem ok_c {K n kc : Nat} {s s1 : gS} {F : Option (gS × Int32)} {v : Int32} {k : gS × Nat → Int32 → Option (gS × Int32)} (hF : F = some (s1, v)) (hc : n + kc ≤ K) (hk : Ok (k (s1, n + kc) v) P) : Ok (gCN K (s, n) kc F k) P := by
  obtain ⟨o, h1, h2⟩ := hk
  refine ⟨o, ?_, h2⟩
  unfold gCN
  rw [if_pos hc, hF]
  exact h1
theorem ok_l {α : Type} {a : α} {k : α → Option (gS × Int32)} (h : Ok (k a) P) : Ok (gLt a k) P := h
theorem ok_j {α : Type} {a : α} {k : α → Option (gS × Int32)} (h : ∀ j, j = a → Ok (k j) P) : Ok (gLt a k) P := h a rfl
theorem ok_T {c : Prop} [Decidable c] {x y : Option (gS × Int32)} (hc : c) (h : Ok x P) : Ok (if c then x else y) P := by
  rw [if_pos hc]
  exact h
theorem ok_F {c : Prop} [Decidable c] {x y : Option (gS × Int32)} (hc : ¬ c) (h : Ok y P) : Ok (if c then x else y) P := by
  rw [if_neg hc]
  exact h
theorem ok_lT {c : Prop} [Decidable c] {x y : Int32} {k : Int32 → Option (gS × Int32)} (hc : c) (h : Ok (k x) P) : Ok (gLt (if c then x else y) k) P := by
  rw [if_pos hc]
  exact h
theorem ok_lF {c : Prop} [Decidable c] {x y : Int32} {k : Int32 → Option (gS × Int32)} (hc : ¬ c) (h : Ok (k y) P) : Ok (gLt (if c then x else y) k) P := by
  rw [if_neg hc]
  exact h
theorem ok_r {K n : Nat} {s : gS} {v : Int32} (hc : n ≤ K) (h : P s v) : Ok (gRN K (s, n) v) P := ⟨(s, v), by unfold gRN; rw [if_pos hc], h⟩
theorem ok_b1 {k : Option (gS × Int32)} (h : Ok k P) : Ok (gRz .boolean 1 k) P := h
theorem ok_d {x : Int32} {k : Option (gS × Int32)} (hx : ¬ x = 0) (h : Ok k P) : Ok (gDz x k) P := by
  unfold gDz
  rw [if_neg hx]
  exact h
theorem ok_k0 {k K : gS × Nat → Option (gS × Int32)} {s : gS × Nat} (hk : k = K) (h : Ok (K s) P) : Ok (k s) P := hk ▸ h
theorem ok_k1 {k K : Int32 → gS × Nat → Option (gS × Int32)} {x : Int32} {s : gS × Nat} (hk : k = K) (h : Ok (K x s) P) : Ok (k x s) P := hk ▸ h
theorem ok_k2 {k K : Int32 → Int32 → gS × Nat → Option (gS × Int32)} {x y : Int32} {s : gS × Nat} (hk : k = K) (h : Ok (K x y s) P) : Ok (k x y s) P := hk ▸ h
end OK
theorem ok_eq {F : Option (gS × Int32)} {s : gS} {v : Int32} (h : Ok F (fun s' v' => s' = s ∧ v' = v)) : F = some (s, v) := by
  obtain ⟨⟨a, b⟩, h1, h2, h3⟩ := h
  dsimp only at h2 h3
  rw [h1, h2, h3]
/-! one call -/
section EV
variable {a : Nat} {s : gS} {t : gT} {w x y z : Int32}
theorem eQ {v : Int32} (hs : gsel a s = t) (e : sp w x y z t = some (t, v)) : aL_call a w x y z s = some (s, v) := by
  unfold aL_call
  rw [hs, e]
  show some (gput a s t, v) = _
  rw [← hs, gput_sel]
theorem eA {q : gT × Int32} (hs : gsel a s = t) (e : sp w x y z t = some q) : aL_call a w x y z s = some (gput a s q.1, q.2) := by
  unfold aL_call
  rw [hs, e]
  rfl
theorem sp0 (h : wi x 0 255 = false) : sp 0 x y z t = some (t, -9999002) := by
  unfold sp
  rw [if_pos rfl, h]
  rfl
theorem sp2 : sp 2 x y z t = some (t, qAbout t x) := rfl
theorem sp3 : sp 3 x y z t = some (t, qTold t x y) := rfl
theorem sp4 : sp 4 x y z t = some (t, qOrd t x y) := rfl
theorem sp5 : sp 5 x y z t = some (t, qAway t x y z) := rfl
theorem sp6 : sp 6 x y z t = some (t, qClosed t x y) := rfl
theorem sp7 : sp 7 x y z t = some (t, qRound t x) := rfl
theorem sp8 : sp 8 x y z t = some (t, qSet t x) := rfl
theorem sp9 : sp 9 x y z t = some (pCome t x y) := rfl
theorem sp10 : sp 10 x y z t = some (pChange t x y z) := rfl
theorem sp11 : sp 11 x y z t = some (pHoli t x y z) := rfl
theorem sp12 : sp 12 x y z t = some (pDrop t x y) := rfl
theorem sp13 : sp 13 x y z t = some (pSwap t x y) := rfl
theorem sp14 : sp 14 x y z t = some (pSet t x y) := rfl
theorem sp15 (h : t.1.1.1 1 ≤ 89900) : sp 15 x y z t = some (pDays t x) := by
  show (if t.1.1.1 1 ≤ 89900 then some (pDays t x) else none) = _
  rw [if_pos h]
theorem sp16 : sp 16 x y z t = some (pUndo t) := rfl
theorem sp17 : sp 17 x y z t = some (t, qWhy t x) := rfl
theorem sp18 : sp 18 x y z t = some (t, qCredit t x y) := rfl
theorem sp19 : sp 19 x y z t = some (t, qClear t x) := rfl
theorem sp20 : sp 20 x y z t = some (t, qOven t x) := rfl
theorem sp21 : sp 21 x y z t = some (t, qBest t x) := rfl
theorem sp22 : sp 22 x y z t = some (pKeep t x) := rfl
theorem sp23 : sp 23 x y z t = some (pBack t x) := rfl
/-! calls that are refused -/
theorem wng {k : Nat} {a b : Int} (h : k < 1000000) (ha : 0 ≤ a) : wi (-1 - i3 k) a b = false := by
  have e : (-1 - i3 k).toInt = -1 - (k : Int) := by
    rw [m1n, Int32.toInt_sub, Int32.toInt_neg, i3t (by omega), i3t (by omega)]
    simp only [Int.bmod]
    omega
  unfold wi
  rw [e]
  exact decide_eq_false (by omega)
theorem wge (c k : Nat) {a b : Int} (h : c + k < 2147483648) (hb : b < c) : wi (i3 c + i3 k) a b = false := by
  rw [i3a]
  unfold wi
  rw [i3t h]
  exact decide_eq_false (by omega)
theorem tactI {z : gB × gB} {v : Int32} {c : Nat} (h : c = 20001) : tact c t z v = (t, -9999001) := by
  unfold tact
  rw [if_pos h]
theorem tactA {z : gB × gB} {v : Int32} {c : Nat} (h : c = 20002) : tact c t z v = (t, -9999002) := by
  subst h
  rfl
theorem tactS {z : gB × gB} {v : Int32} {c : Nat} (h : c = 20003) : tact c t z v = (t, -9999003) := by
  subst h
  rfl
theorem tactO {z : gB × gB} {v : Int32} {c : Nat} (h : c = 20000) : tact c t z v = (tpush t z, v) := by
  subst h
  rfl
theorem fr3I {p q r : Bool} (h : p = false) : fr3 p q r = 20001 := by
  subst h
  rfl
theorem fr3A {p q r : Bool} (h : p = true) (h2 : q = false) : fr3 p q r = 20002 := by
  subst h h2
  rfl
theorem fr3S {p q r : Bool} (h : p = true) (h2 : q = true) (h3 : r = false) : fr3 p q r = 20003 := by
  subst h h2 h3
  rfl
theorem fr3O {p q r : Bool} (h : p = true) (h2 : q = true) (h3 : r = true) : fr3 p q r = 20000 := by
  subst h h2 h3
  rfl
theorem a0 (hs : gsel a s = t) (h : wi x 0 255 = false) : aL_call a 0 x y z s = some (s, -9999002) := eQ hs (sp0 h)
theorem a2 (hs : gsel a s = t) (h : wi x 0 12 = false) : aL_call a 2 x y z s = some (s, -9999002) := eQ hs (sp2.trans (by unfold qAbout; rw [h]; rfl))
theorem a3i (hs : gsel a s = t) (h : hcu t.1.1 x = false) : aL_call a 3 x y z s = some (s, -9999001) := eQ hs (sp3.trans (by unfold qTold; rw [h]; rfl))
theorem a3a (hs : gsel a s = t) (h : hcu t.1.1 x = true) (h2 : wi y 0 10 = false) : aL_call a 3 x y z s = some (s, -9999002) := eQ hs (sp3.trans (by unfold qTold; rw [h, h2]; rfl))
theorem a4i (hs : gsel a s = t) (h : (hcu t.1.1 x && wi y 0 6) = false) : aL_call a 4 x y z s = some (s, -9999001) := eQ hs (sp4.trans (by unfold qOrd; rw [h]; rfl))
theorem a5i (hs : gsel a s = t) (h : (hcu t.1.1 x && wi y 0 2) = false) : aL_call a 5 x y z s = some (s, -9999001) := eQ hs (sp5.trans (by unfold qAway; rw [h]; rfl))
theorem a5a (hs : gsel a s = t) (h : (hcu t.1.1 x && wi y 0 2) = true) (h2 : wi z 0 1 = false) : aL_call a 5 x y z s = some (s, -9999002) := eQ hs (sp5.trans (by unfold qAway; rw [h, h2]; rfl))
theorem a6i (hs : gsel a s = t) (h : (wi x 0 3 && wi y 0 6) = false) : aL_call a 6 x y z s = some (s, -9999001) := eQ hs (sp6.trans (by unfold qClosed; rw [h]; rfl))
theorem a7i (hs : gsel a s = t) (h : wi x 0 3 = false) : aL_call a 7 x y z s = some (s, -9999001) := eQ hs (sp7.trans (by unfold qRound; rw [h]; rfl))
theorem a8a (hs : gsel a s = t) (h : wi x 0 4 = false) : aL_call a 8 x y z s = some (s, -9999002) := eQ hs (sp8.trans (by unfold qSet; rw [h]; rfl))
theorem dI (hs : gsel a s = t) (h : hcu t.1.1 x = false) : aL_dues a x y z w s = some (s, -9999001) := by unfold aL_dues qDue; rw [hs, h]; rfl
theorem dA (hs : gsel a s = t) (h : hcu t.1.1 x = true) (h2 : (wi y 0 999 && (wi z 0 500 && wi w 0 1)) = false) : aL_dues a x y z w s = some (s, -9999002) := by unfold aL_dues qDue; rw [hs, h, h2]; rfl
theorem eN {v : Int32} (hs : gsel a s = t) {q : gT × Int32} (e : sp w x y z t = some q) (hq : q = (t, v)) : aL_call a w x y z s = some (s, v) := eQ hs (e.trans (by rw [hq]))
theorem a9i (hs : gsel a s = t) (h : wi x 0 3 = false) : aL_call a 9 x y z s = some (s, -9999001) := eN hs sp9 (tactI (fr3I h))
theorem a9a (hs : gsel a s = t) (h : wi x 0 3 = true) (h2 : wi y 0 9999999 = false) : aL_call a 9 x y z s = some (s, -9999002) := eN hs sp9 (tactA (fr3A h h2))
theorem a9s (hs : gsel a s = t) (h : wi x 0 3 = true) (h2 : wi y 0 9999999 = true) (h3 : ¬ t.1.1.1 0 < 10) : aL_call a 9 x y z s = some (s, -9999003) := eN hs sp9 (tactS (fr3S h h2 (decide_eq_false h3)))
theorem a10i (hs : gsel a s = t) (h : (hcu t.1.1 x && wi y 0 6) = false) : aL_call a 10 x y z s = some (s, -9999001) := eN hs sp10 (tactI (fr3I h))
theorem a10a (hs : gsel a s = t) (h : (hcu t.1.1 x && wi y 0 6) = true) (h2 : wi z 0 9 = false) : aL_call a 10 x y z s = some (s, -9999002) := eN hs sp10 (tactA (fr3A h h2))
theorem a11i (hs : gsel a s = t) (h : hcu t.1.1 x = false) : aL_call a 11 x y z s = some (s, -9999001) := eN hs sp11 (tactI (fr3I h))
theorem a11a (hs : gsel a s = t) (h : hcu t.1.1 x = true) (h2 : (wi y 0 999 && wi z y.toInt 999) = false) : aL_call a 11 x y z s = some (s, -9999002) := eN hs sp11 (tactA (fr3A h h2))
theorem a11s (hs : gsel a s = t) (h : hcu t.1.1 x = true) (h2 : (wi y 0 999 && wi z y.toInt 999) = true) (h3 : ¬ t.1.1.2 (nV x) 14 < 3) : aL_call a 11 x y z s = some (s, -9999003) := eN hs sp11 (tactS (fr3S h h2 (decide_eq_false h3)))
theorem a12i (hs : gsel a s = t) (h : (hcu t.1.1 x && wi y 0 ((t.1.1.2 (nV x) 14 : Int) - 1)) = false) : aL_call a 12 x y z s = some (s, -9999001) := eN hs sp12 (tactI (fr3I h))
theorem aci (hs : gsel a s = t) (h : (wi x 0 3 && wi y 0 6) = false) : aL_closes a x y z s = some (s, -9999001) := by
  unfold aL_closes pClose
  rw [hs, tactI (fr3I h)]
  show some (gput a s t, _) = _
  rw [← hs, gput_sel]
theorem a13i (hs : gsel a s = t) (h : (wi x 0 3 && wi y 0 3) = false) : aL_call a 13 x y z s = some (s, -9999001) := eN hs sp13 (tactI (fr3I h))
theorem a14a (hs : gsel a s = t) (h : seB x y = false) : aL_call a 14 x y z s = some (s, -9999002) := eN hs sp14 (tactA (fr3A rfl h))
theorem a15a (hs : gsel a s = t) (hd : t.1.1.1 1 ≤ 89900) (h : wi x 1 60 = false) : aL_call a 15 x y z s = some (s, -9999002) := eN hs (sp15 hd) (tactA (fr3A rfl h))
theorem a17i (hs : gsel a s = t) (h : hcu t.1.1 x = false) : aL_call a 17 x y z s = some (s, -9999001) := eQ hs (sp17.trans (by unfold qWhy; rw [h]; rfl))
theorem a18i (hs : gsel a s = t) (h : hcu t.1.1 x = false) : aL_call a 18 x y z s = some (s, -9999001) := eQ hs (sp18.trans (by unfold qCredit; rw [h]; rfl))
theorem a18a (hs : gsel a s = t) (h : hcu t.1.1 x = true) (h2 : wi y 0 200 = false) : aL_call a 18 x y z s = some (s, -9999002) := eQ hs (sp18.trans (by unfold qCredit; rw [h, h2]; rfl))
theorem a19i (hs : gsel a s = t) (h : hcu t.1.1 x = false) : aL_call a 19 x y z s = some (s, -9999001) := eQ hs (sp19.trans (by unfold qClear; rw [h]; rfl))
theorem a20a (hs : gsel a s = t) (h : wi x 1 60 = false) : aL_call a 20 x y z s = some (s, -9999002) := eQ hs (sp20.trans (by unfold qOven; rw [h]; rfl))
theorem a21a (hs : gsel a s = t) (h : wi x 1 30 = false) : aL_call a 21 x y z s = some (s, -9999002) := eQ hs (sp21.trans (by unfold qBest; rw [h]; rfl))
theorem a22i (hs : gsel a s = t) (h : wi x 0 1 = false) : aL_call a 22 x y z s = some (s, -9999001) := eN hs sp22 (by unfold pKeep; rw [h]; rfl)
theorem a23i (hs : gsel a s = t) (h : wi x 0 1 = false) : aL_call a 23 x y z s = some (s, -9999001) := eN hs sp23 (by unfold pBack; rw [h]; rfl)
theorem asi {u : Int64} (hs : gsel a s = t) (h : wi x 1 60 = false) : aL_doSimulate a u x s = some (s, -9999002) := by
  unfold aL_doSimulate qSim
  rw [hs, h]
  rfl
end EV
