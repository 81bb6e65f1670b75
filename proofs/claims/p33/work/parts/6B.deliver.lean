/-! the program's round of a day -/
theorem jminI {a b : Nat} (ha : a < 2147483648) (hb : b < 2147483648) : jmin (i3 a) (i3 b) = i3 (min a b) := by
  unfold jmin
  rw [iLt hb ha]
  by_cases q : b < a
  · rw [if_pos q, Nat.min_eq_right (Nat.le_of_lt q)]
  · rw [if_neg q, Nat.min_eq_left (by omega)]
theorem jmaxI {a b : Nat} (ha : a < 2147483648) (hb : b < 2147483648) : jmax (i3 a) (i3 b) = i3 (max a b) := by
  unfold jmax
  rw [iLt ha hb]
  by_cases q : a < b
  · rw [if_pos q, Nat.max_eq_right (Nat.le_of_lt q)]
  · rw [if_neg q, Nat.max_eq_left (by omega)]
/-- what a step on a book at b leaves: all outside, and the visits -/
def Fb (b : Nat) (m m' : gM) : Prop := ∀ x, (x < b ∨ b + 308 ≤ x ∨ (b + 58 ≤ x ∧ x < b + 68)) → m' x = m x
theorem Fb.rf {b : Nat} {m : gM} : Fb b m m := fun _ _ => rfl
theorem Fb.tr {b : Nat} {m m1 m2 : gM} (h1 : Fb b m m1) (h2 : Fb b m1 m2) : Fb b m m2 := fun x hx => (h2 x hx).trans (h1 x hx)
theorem Fb.up {b y : Nat} {m : gM} {v : Int32} (h1 : b ≤ y) (h2 : y < b + 308) (h3 : y < b + 58 ∨ b + 68 ≤ y) : Fb b m (upd m y v) := fun x hx => upd_n (by omega)
theorem Fb.fr {b : Nat} {m m' : gM} (h : Fb b m m') : Fr b 308 m m' := fun x hx => h x (by omega)
theorem Cx.frV {b : Nat} {S D : gB} {hh : Nat} {m m' : gM} (h : Cx b S D hh m) (hf : Fr (b + 58) 10 m m') : Cx b S D hh m' :=
  ⟨⟨by rw [hf _ (by omega)]; exact h.h0, by rw [hf _ (by omega)]; exact h.h1, by rw [hf _ (by omega)]; exact h.h2, by rw [hf _ (by omega)]; exact h.h3, by rw [hf _ (by omega)]; exact h.h4, by rw [hf _ (by omega)]; exact h.h5⟩, fun i hi => by rw [hf _ (by omega)]; exact h.2.1 i hi, fun i hi => by rw [hf _ (by omega)]; exact h.2.2.1 i hi, fun i hi => by rw [hf _ (by omega)]; exact h.2.2.2.1 i hi, fun c hc => (h.c hc).fr hf (by omega)⟩
def Vs (b : Nat) (S : gB) (m : gM) : Prop := ∀ i x, (rnd S)[i]? = some x → m (b + 58 + i) = i3 x
theorem Vs.fb {b B : Nat} {S : gB} {m m' : gM} (h : Vs b S m) (hI : Is B S) (hf : Fb b m m') : Vs b S m' := fun i x hx => by
  have hl := rnd_len hI
  have hn := hI.1
  have hi : i < (rnd S).length := by
    rcases Nat.lt_or_ge i (rnd S).length with q | q
    · exact q
    · rw [List.getElem?_eq_none q] at hx
      cases hx
  rw [hf _ (by omega)]
  exact h i x hx
theorem Fr.sub {a n a' n' : Nat} {m m' : gM} (h : Fr a n m m') (h1 : a' ≤ a) (h2 : a + n ≤ a' + n') : Fr a' n' m m' := fun x hx => h x (by omega)
theorem c_plan11 {b B p : Nat} {S D : gB} {hh : Nat} (hI : Is B S) (hp : p < 4) (r4 : Int32 → Int32 → gM → Option gM) : ∀ (f j c v : Nat) (m : gM), c + j = S.1 0 → j < f → v + (lst S p c j).length ≤ 10 → Cx b S D hh m → ∃ m', fX0_planVisits_L11 b (i3 p) r4 f (i3 v) (i3 c) m = r4 (i3 (v + (lst S p c j).length)) (i3 (p + 1)) m' ∧ Fr (b + 58 + v) (lst S p c j).length m m' ∧ ∀ i x, (lst S p c j)[i]? = some x → m' (b + 58 + v + i) = i3 x := by
  have hn := hI.1
  have h16 := hI.ord hp
  intro f
  induction f with
  | zero => intro j c v m h1 h2; omega
  | succ f ih =>
    intro j c v m h1 h2 h3 h
    unfold fX0_planVisits_L11
    rw [h.h0, gLtI, iLe (by omega) (by omega)]
    cases j with
    | zero =>
      rw [if_pos (by omega), gLtI, n1, i3a]
      exact ⟨m, rfl, fun _ _ => rfl, fun i x hx => by simp [lst] at hx⟩
    | succ j =>
      have hc : c < S.1 0 := by omega
      have hst := (hI.cust hc).1
      rw [if_neg (by omega), gEl10 (by omega), (h.c hc).f0, gLtI, h.rO hp]
      simp only [gLtI]
      rw [iEq (by omega) (by omega)]
      by_cases hs : S.2 c 0 = S.1 (16 + p)
      · have el : lst S p c (j + 1) = c :: lst S p (c + 1) j := by simp [lst, hs]
        rw [el] at h3 ⊢
        simp only [List.length_cons] at h3 ⊢
        rw [if_pos hs, gWrI (by omega) (by omega), n1, i3a, i3a]
        have f1 : Fr (b + 58 + v) 1 m (upd m (b + 58 + v) (i3 c)) := Fr.up (by omega) (by omega)
        obtain ⟨m', e1, e2, e3⟩ := ih j (c + 1) (v + 1) (upd m (b + 58 + v) (i3 c)) (by omega) (by omega) (by omega) (h.frV (f1.sub (by omega) (by omega)))
        refine ⟨m', ?_, (f1.sub (by omega) (by omega)).tr (e2.sub (by omega) (by omega)), fun i x hx => ?_⟩
        · rw [e1]
          congr 2
          omega
        · cases i with
          | zero =>
            simp at hx
            subst hx
            show m' (b + 58 + v) = i3 c
            rw [e2 _ (by omega), upd_s]
          | succ i =>
            simp at hx
            have e4 : b + 58 + v + (i + 1) = b + 58 + (v + 1) + i := by omega
            rw [e4]
            exact e3 i x hx
      · have el : lst S p c (j + 1) = lst S p (c + 1) j := by simp [lst, hs]
        rw [el] at h3 ⊢
        rw [if_neg hs, n1, i3a]
        exact ih j (c + 1) v m (by omega) (by omega) h3 h
theorem c_plan {b B : Nat} {S D : gB} {hh : Nat} {m : gM} (h : Cx b S D hh m) (hI : Is B S) : ∃ m', fX0_planVisits b m = some m' ∧ Fr (b + 58) 10 m m' ∧ Vs b S m' := by
  have hn := hI.1
  have L : ∀ (f q p v : Nat) (m : gM), p + q = 4 → q < f → v + (rndF S p q).length ≤ 10 → Cx b S D hh m → ∃ m', fX0_planVisits_L4 b f (i3 v) (i3 p) m = some m' ∧ Fr (b + 58 + v) (rndF S p q).length m m' ∧ ∀ i x, (rndF S p q)[i]? = some x → m' (b + 58 + v + i) = i3 x := by
    intro f
    induction f with
    | zero => intro q p v m h1 h2; omega
    | succ f ih =>
      intro q p v m h1 h2 h3 h
      unfold fX0_planVisits_L4
      rw [n4, iLe (by omega) (by omega)]
      cases q with
      | zero =>
        rw [if_pos (by omega)]
        exact ⟨m, rfl, fun _ _ => rfl, fun i x hx => by simp [rndF] at hx⟩
      | succ q =>
        have e : rndF S p (q + 1) = lst S p 0 (S.1 0) ++ rndF S (p + 1) q := rfl
        rw [e, List.length_append] at h3 ⊢
        obtain ⟨m1, e1, e2, e3⟩ := c_plan11 hI (p := p) (by omega) (fX0_planVisits_L4 b f) gFU (S.1 0) 0 v m (by omega) (by show S.1 0 < 5000; omega) (by omega) h
        rw [if_neg (by omega), n0, e1]
        obtain ⟨m2, g1, g2, g3⟩ := ih q (p + 1) (v + (lst S p 0 (S.1 0)).length) m1 (by omega) (by omega) (by omega) (h.frV (e2.sub (by omega) (by omega)))
        refine ⟨m2, g1, (e2.sub (by omega) (by omega)).tr (g2.sub (by omega) (by omega)), fun i x hx => ?_⟩
        by_cases hi : i < (lst S p 0 (S.1 0)).length
        · rw [List.getElem?_append_left hi] at hx
          rw [g2 _ (by omega)]
          exact e3 i x hx
        · rw [List.getElem?_append_right (by omega)] at hx
          have := g3 _ x hx
          rw [show b + 58 + (v + (lst S p 0 (S.1 0)).length) + (i - (lst S p 0 (S.1 0)).length) = b + 58 + v + i from by omega] at this
          exact this
  have hl := rnd_len hI
  obtain ⟨m', e1, e2, e3⟩ := L gFU 4 0 0 m (by omega) (by show 4 < 5000; omega) (by show 0 + (rnd S).length ≤ 10; omega) h
  unfold fX0_planVisits
  refine ⟨m', e1, fun x hx => e2 x ?_, fun i x hx => e3 i x hx⟩
  show _ ∨ b + 58 + 0 + (rnd S).length ≤ x
  omega
theorem c_recv {b c due g mi la hh : Nat} {S D : gB} {m : gM} (h : Cx b S D hh m) (hc : c < S.1 0) (hd : due ≤ 9) (hg : g ≤ due) (hmi : mi = if 0 < due ∧ g = 0 then 1 else 0) (hla : la = if 0 < g ∧ g < due then 1 else 0) : ∃ m', fX1_receive (b + 11 + 57 + 24 * c) (i3 due) (i3 g) m = some m' ∧ Cx b S (sC (sC (sC (sC D c 9 (D.2 c 9 + g)) c 8 (D.2 c 8 + (due - g))) c 12 (D.2 c 12 + mi)) c 13 (D.2 c 13 + la)) hh m' ∧ (∀ x, (x < b + 68 ∨ b + 11 + 57 + 24 * c + 24 ≤ x) → m' x = m x) := by
  unfold fX1_receive
  rw [(h.c hc).f2, gLtI, i3a, gLtI]
  have h1 := h.DC (i := 1) (v := D.2 c 9 + g) hc (by omega)
  rw [show 1 + 1 = 2 from rfl, show 8 + 1 = 9 from rfl] at h1
  have k1 : (sC D c 9 (D.2 c 9 + g)).2 c 8 = D.2 c 8 ∧ (sC D c 9 (D.2 c 9 + g)).2 c 12 = D.2 c 12 ∧ (sC D c 9 (D.2 c 9 + g)).2 c 13 = D.2 c 13 := by
    refine ⟨?_, ?_, ?_⟩ <;> simp [sC, up]
  rw [← k1.1, ← k1.2.1, ← k1.2.2]
  have f1 : ∀ x, (x < b + 68 ∨ b + 11 + 57 + 24 * c + 24 ≤ x) → (upd m (b + 11 + 57 + 24 * c + 2) (i3 (D.2 c 9 + g))) x = m x := fun x hx => upd_n (by omega)
  generalize upd m (b + 11 + 57 + 24 * c + 2) _ = m1 at h1 f1 ⊢
  generalize sC D c 9 (D.2 c 9 + g) = D1 at h1 ⊢
  rw [(h1.c hc).f1, gLtI, i3s hg, i3a, gLtI]
  have h2 := h1.DC (i := 0) (v := D1.2 c 8 + (due - g)) hc (by omega)
  rw [show 1 + 0 = 1 from rfl, show 8 + 0 = 8 from rfl] at h2
  have k2 : (sC D1 c 8 (D1.2 c 8 + (due - g))).2 c 12 = D1.2 c 12 ∧ (sC D1 c 8 (D1.2 c 8 + (due - g))).2 c 13 = D1.2 c 13 := by
    refine ⟨?_, ?_⟩ <;> simp [sC, up]
  rw [← k2.1, ← k2.2]
  have f2 : ∀ x, (x < b + 68 ∨ b + 11 + 57 + 24 * c + 24 ≤ x) → (upd m1 (b + 11 + 57 + 24 * c + 1) (i3 (D1.2 c 8 + (due - g)))) x = m x := fun x hx => (upd_n (by omega)).trans (f1 x hx)
  generalize upd m1 (b + 11 + 57 + 24 * c + 1) _ = m2 at h2 f2 ⊢
  generalize sC D1 c 8 (D1.2 c 8 + (due - g)) = D2 at h2 ⊢
  rw [n0, n1, iLe (by omega) (by omega), iLe (by omega) (by omega), iEq (by omega) (by omega)]
  by_cases q1 : due ≤ 0
  · have e1 : mi = 0 := by rw [hmi, if_neg (by omega)]
    have e2 : la = 0 := by rw [hla, if_neg (by omega)]
    rw [if_pos q1, if_pos (by omega), e1, e2]
    simp only [Nat.add_zero]
    rw [sC_id, sC_id]
    exact ⟨m2, rfl, h2, f2⟩
  · rw [if_neg q1]
    by_cases q2 : g = 0
    · have e1 : mi = 1 := by rw [hmi, if_pos (by omega)]
      have e2 : la = 0 := by rw [hla, if_neg (by omega)]
      rw [if_pos q2, e1, e2, (h2.c hc).f5, gLtI, i3a, gLtI]
      have h3 := h2.DC (i := 4) (v := D2.2 c 12 + 1) hc (by omega)
      rw [show 1 + 4 = 5 from rfl, show 8 + 4 = 12 from rfl] at h3
      refine ⟨_, rfl, ?_, fun x hx => (upd_n (by omega)).trans (f2 x hx)⟩
      have k3 : D2.2 c 13 = (sC D2 c 12 (D2.2 c 12 + 1)).2 c 13 := by simp [sC, up]
      rw [k3]
      simp only [Nat.add_zero]
      rw [sC_id]
      exact h3
    · have e1 : mi = 0 := by rw [hmi, if_neg (by omega)]
      rw [if_neg q2, e1]
      simp only [Nat.add_zero]
      rw [sC_id]
      by_cases q3 : due ≤ g
      · have e2 : la = 0 := by rw [hla, if_neg (by omega)]
        rw [if_pos q3, e2]
        simp only [Nat.add_zero]
        rw [sC_id]
        exact ⟨m2, rfl, h2, f2⟩
      · have e2 : la = 1 := by rw [hla, if_pos (by omega)]
        rw [if_neg q3, e2, (h2.c hc).f6, gLtI, i3a, gLtI]
        have h3 := h2.DC (i := 5) (v := D2.2 c 13 + 1) hc (by omega)
        rw [show 1 + 5 = 6 from rfl, show 8 + 5 = 13 from rfl] at h3
        exact ⟨_, rfl, h3, fun x hx => (upd_n (by omega)).trans (f2 x hx)⟩
theorem stD_eq {S D : gB} {d van c g mi la : Nat} (hg : g = if op S c d = true then min (du S c d) van else 0) (hmi : mi = if 0 < du S c d ∧ g = 0 then 1 else 0) (hla : la = if 0 < g ∧ g < du S c d then 1 else 0) : stD S d (D, van) c = (sH (sH (sC (sC (sC (sC (sH (sH D 7 (D.1 7 + du S c d * S.1 15)) 3 (D.1 3 + g)) c 9 (D.2 c 9 + g)) c 8 (D.2 c 8 + (du S c d - g))) c 12 (D.2 c 12 + mi)) c 13 (D.2 c 13 + la)) 9 (D.1 9 + mi)) 10 (D.1 10 + la), van - g) := by
  unfold stD
  simp only
  rw [← hg, ← hmi, ← hla]
  simp [sH, sC, up]
