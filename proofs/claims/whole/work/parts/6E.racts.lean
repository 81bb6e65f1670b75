/-! acts by the reference -/
theorem up_up {α : Type} {f : Nat → α} {i : Nat} {v w : α} : up (up f i v) i w = up f i w := by
  funext j
  unfold up
  split <;> rfl
theorem sC_cu {S : gB} {c j x : Nat} {r : Nat → Nat} : sC (cuS S c r) c j x = cuS S c (up r j x) := by
  unfold sC cuS
  simp only [up_s, up_up]
theorem sC_cu0 {S : gB} {c j x : Nat} : sC S c j x = cuS S c (up (S.2 c) j x) := rfl
theorem Mr.cu {a c : Nat} {S D : gB} {m m' : gM} {s' d' : Nat → Nat} (h : Mr a S D m) (hc : c < 10) (hf : Fr (a + (48 + 21 * c)) 21 m m') (h1 : ∀ j, j < 21 → (j < 8 ∨ 13 < j) → m' (a + (48 + 21 * c + j)) = i3 (s' j)) (h2 : ∀ j, 8 ≤ j → j ≤ 13 → m' (a + (48 + 21 * c + j)) = i3 (d' j)) : Mr a (cuS S c s') (D.1, up D.2 c d') m' := by
  refine ⟨fun k hk hj => by rw [hf _ (by omega)]; exact h.1 k hk hj, fun k hk hj => by rw [hf _ (by omega)]; exact h.2.1 k hk hj, fun c' hc' j' hj' hk => ?_, fun c' hc' j' hj' hk => ?_⟩
  · show _ = i3 (up S.2 c s' c' j')
    by_cases e : c' = c
    · subst e
      rw [up_s]
      exact h1 j' hj' hk
    · rw [up_n e, hf _ (by omega)]
      exact h.2.2.1 c' hc' j' hj' hk
  · show _ = i3 (up D.2 c d' c' j')
    by_cases e : c' = c
    · subst e
      rw [up_s]
      exact h2 j' hj' hk
    · rw [up_n e, hf _ (by omega)]
      exact h.2.2.2 c' hc' j' hj' hk
theorem m_addS {a c j v : Nat} {S D : gB} {m : gM} (h : Mr a S D m) (hc : c < 10) (hj : j < 21) (hk : j < 8 ∨ 13 < j) : fX6_add a 258 (i3 c) (i3 j) (i3 v) m = some (upd m (a + (48 + 21 * c + j)) (i3 (S.2 c j + v))) := by
  unfold fX6_add
  simp (disch := omega) only [n48, n21, i3a, i3m, gRdI, gWrI, h.2.2.1 c hc j hj hk]
theorem m_subS {a c j v : Nat} {S D : gB} {m : gM} (h : Mr a S D m) (hc : c < 10) (hj : j < 21) (hk : j < 8 ∨ 13 < j) (hv : v ≤ S.2 c j) : fX6_add a 258 (i3 c) (i3 j) (-(i3 v)) m = some (upd m (a + (48 + 21 * c + j)) (i3 (S.2 c j - v))) := by
  unfold fX6_add
  simp (disch := omega) only [n48, n21, i3a, i3m, gRdI, gWrI, h.2.2.1 c hc j hj hk, i3an hv]
theorem m_chg {a c w x : Nat} {S D : gB} {m : gM} (h : Mr a S D m) (hc : c < 10) (hw : w < 7) : ∃ m', fX6_changeOn a 258 (i3 c) (i3 w) (i3 x) m = some (m', i3 (S.2 c (1 + w))) ∧ Mr a (cuS S c (up (S.2 c) (1 + w) x)) D m' ∧ Fr a 258 m m' := by
  unfold fX6_changeOn fX6_put
  have h1 := h.SC (c := c) (j := 1 + w) (v := x) hc (by omega) (by omega)
  have f1 : Fr a 258 m _ := Fr.up (m := m) (y := a + (48 + 21 * c + (1 + w))) (v := i3 x) (by omega) (by omega)
  rw [n48, n21, n1, i3m, i3a, i3a, i3a, gRdI (by omega) (by omega), gWrI (by omega) (by omega), gClI, show 48 + 21 * c + 1 + w = 48 + 21 * c + (1 + w) from by omega, h.2.2.1 c hc (1 + w) (by omega) (by omega)]
  exact ⟨_, rfl, h1, f1⟩
theorem m_put {a i x : Nat} {S D : gB} {m : gM} (h : Mr a S D m) (hi : i < 5) : ∃ m', fX6_put a 258 (11 + i3 i) (i3 x) m = some (m', i3 (S.1 (11 + i))) ∧ Mr a (sH S (11 + i) x) D m' ∧ Fr a 258 m m' := by
  unfold fX6_put
  rw [n11, i3a, m_rS h (by omega) (by omega), gWrI (by omega) (by omega)]
  exact ⟨_, rfl, h.SH (by omega) (by omega), Fr.up (by omega) (by omega)⟩
theorem m_hol {a B c x y : Nat} {S D : gB} {m : gM} (h : Mr a S D m) (hc : c < 10) (h3 : S.2 c 14 < 3) : ∃ m', fX6_holidayOn a 258 (i3 c) (i3 x) (i3 y) m = some (m', i3 (S.2 c 14 + 1)) ∧ Mr a (cuS S c (hoR (S.2 c) x y)) D m' ∧ Fr a 258 m m' := by
  unfold fX6_holidayOn
  rw [n14, m_ofS h hc (by omega) (by omega), gClI, n48, n21, n15, n2, i3m, i3a, i3a, i3m, i3a, gLtI, gWrI (by omega) (by omega), n1, i3a, gWrI (by omega) (by omega)]
  have h1 := (h.SC (c := c) (j := 15 + 2 * S.2 c 14) (v := x) hc (by omega) (by omega)).SC (c := c) (j := 15 + 2 * S.2 c 14 + 1) (v := y) hc (by omega) (by omega)
  rw [sC_cu0 (S := S), sC_cu] at h1
  have f1 : Fr a 258 m _ := (Fr.up (m := m) (y := a + (48 + 21 * c + (15 + 2 * S.2 c 14))) (v := i3 x) (by omega) (by omega)).tr (Fr.up (y := a + (48 + 21 * c + (15 + 2 * S.2 c 14 + 1))) (v := i3 y) (by omega) (by omega))
  rw [show 48 + 21 * c + 15 + 2 * S.2 c 14 = 48 + 21 * c + (15 + 2 * S.2 c 14) from by omega, show 48 + 21 * c + (15 + 2 * S.2 c 14) + 1 = 48 + 21 * c + (15 + 2 * S.2 c 14 + 1) from by omega]
  generalize upd (upd m _ _) _ _ = m1 at h1 f1 ⊢
  have e14 : (cuS S c (up (up (S.2 c) (15 + 2 * S.2 c 14) x) (15 + 2 * S.2 c 14 + 1) y)).2 c 14 = S.2 c 14 := by
    show up S.2 c _ c 14 = _
    rw [up_s, up_n (by omega), up_n (by omega)]
  rw [m_addS h1 hc (by omega) (by omega), gCvI, e14]
  have h2 := h1.SC (c := c) (j := 14) (v := S.2 c 14 + 1) hc (by omega) (by omega)
  have f2 := f1.tr (Fr.up (m := m1) (y := a + (48 + 21 * c + 14)) (v := i3 (S.2 c 14 + 1)) (by omega) (by omega))
  rw [sC_cu] at h2
  rw [m_ofS h2 hc (by omega) (by omega), gClI]
  refine ⟨_, ?_, h2, f2⟩
  show some (_, i3 (up S.2 c _ c 14)) = _
  rw [up_s, up_s]
def drV (s : Nat → Nat) (k v : Nat) : Nat → Nat := fun j => if j = 14 then s 14 - 1 else if 15 + 2 * k ≤ j ∧ j < 15 + v then s (j + 2) else s j
theorem m_drop {a c k : Nat} {S D : gB} {m : gM} (h : Mr a S D m) (hc : c < 10) (h3 : S.2 c 14 ≤ 3) (hk : k < S.2 c 14) : ∃ m', fX6_dropOn a 258 (i3 c) (i3 k) m = some (m', i3 (S.2 c 14 - 1)) ∧ Mr a (cuS S c (drR (S.2 c) k)) D m' ∧ Fr a 258 m m' := by
  have L : ∀ (f v : Nat) (m : gM), 2 * k ≤ v → v ≤ 2 * (S.2 c 14 - 1) → 2 * (S.2 c 14 - 1) - v < f → Mr a (cuS S c (drV (S.2 c) k v)) D m → ∃ m', fX6_dropOn_L24 a 258 (i3 c) (i3 (48 + 21 * c + 15)) f (i3 v) m = some (m', i3 (S.2 c 14 - 1)) ∧ Mr a (cuS S c (drR (S.2 c) k)) D m' ∧ Fr a 258 m m' := by
    intro f
    induction f with
    | zero => intro v m h1 h2; omega
    | succ f ih =>
      intro v m h1 h2 h4 h
      unfold fX6_dropOn_L24
      have e14 : (cuS S c (drV (S.2 c) k v)).2 c 14 = S.2 c 14 - 1 := by
        show up S.2 c _ c 14 = _
        rw [up_s]
        rfl
      rw [n14, m_ofS h hc (by omega) (by omega), gClI, e14, n2, i3m, iLe (by omega) (by omega)]
      by_cases q : 2 * (S.2 c 14 - 1) ≤ v
      · have e : v = 2 * (S.2 c 14 - 1) := by omega
        rw [if_pos q, m_ofS h hc (by omega) (by omega), gClI, e14]
        rw [e] at h
        exact ⟨m, rfl, h, Fr.rf⟩
      · rw [if_neg q, i3a, i3a, gRdI (by omega) (by omega), gWrI (by omega) (by omega), gLtI, n1, i3a]
        have e1 := h.2.2.1 c hc (15 + v + 2) (by omega) (by omega)
        have e2 : (cuS S c (drV (S.2 c) k v)).2 c (15 + v + 2) = S.2 c (15 + v + 2) := by
          show up S.2 c _ c _ = _
          rw [up_s]
          unfold drV
          rw [if_neg (by omega), if_neg (by omega)]
        rw [show 48 + 21 * c + 15 + v + 2 = 48 + 21 * c + (15 + v + 2) from by omega, e1, e2, show 48 + 21 * c + 15 + v = 48 + 21 * c + (15 + v) from by omega]
        have g1 := h.SC (c := c) (j := 15 + v) (v := S.2 c (15 + v + 2)) hc (by omega) (by omega)
        have f1 : Fr a 258 m _ := Fr.up (m := m) (y := a + (48 + 21 * c + (15 + v))) (v := i3 (S.2 c (15 + v + 2))) (by omega) (by omega)
        rw [sC_cu] at g1
        have e3 : up (drV (S.2 c) k v) (15 + v) (S.2 c (15 + v + 2)) = drV (S.2 c) k (v + 1) := by
          funext j
          unfold up drV
          by_cases r : j = 15 + v
          · subst r
            rw [if_pos rfl, if_neg (by omega), if_pos (by omega)]
          · rw [if_neg r]
            by_cases r2 : j = 14
            · rw [if_pos r2, if_pos r2]
            · rw [if_neg r2, if_neg r2]
              by_cases r3 : 15 + 2 * k ≤ j ∧ j < 15 + v
              · rw [if_pos r3, if_pos (by omega)]
              · rw [if_neg r3, if_neg (by omega)]
        rw [e3] at g1
        obtain ⟨m', s1, s2, s3⟩ := ih (v + 1) _ (by omega) (by omega) (by omega) g1
        exact ⟨m', s1, s2, f1.tr s3⟩
  unfold fX6_dropOn
  rw [m1n, n14, m_subS h hc (by omega) (by omega) (by omega), gCvI, n48, n21, n15, n2, i3m, i3a, i3a, i3m, gLtI, gLtI]
  have g1 := h.SC (c := c) (j := 14) (v := S.2 c 14 - 1) hc (by omega) (by omega)
  have f1 : Fr a 258 m _ := Fr.up (m := m) (y := a + (48 + 21 * c + 14)) (v := i3 (S.2 c 14 - 1)) (by omega) (by omega)
  have e3 : up (S.2 c) 14 (S.2 c 14 - 1) = drV (S.2 c) k (2 * k) := by
    funext j
    unfold up drV
    by_cases r : j = 14
    · rw [if_pos r, if_pos r]
    · rw [if_neg r, if_neg r, if_neg (by omega)]
  rw [sC_cu0, e3] at g1
  obtain ⟨m', s1, s2, s3⟩ := L gFU (2 * k) _ (by omega) (by omega) (by show _ < 5000; omega) g1
  exact ⟨m', s1, s2, f1.tr s3⟩
theorem m_close {a B st w v : Nat} {S D : gB} {m : gM} {p : Int32} (h : Mr a S D m) (hs : st < 4) (hw : w < 7) (hp : (if p = 0 then (0 : Int32) else 1) = i3 v) : ∃ m', fX6_closeOn a 258 (i3 st) (i3 w) p m = some (m', i3 (sm (fun k => (sH S (20 + 7 * st + w) v).1 (20 + 7 * st + k)) 7)) ∧ Mr a (sH S (20 + 7 * st + w) v) D m' ∧ Fr a 258 m m' := by
  have L : ∀ (f k : Nat) (S1 : gB) (m : gM), k ≤ 7 → 7 - k < f → Mr a S1 D m → fX6_closeOn_L26 a 258 (i3 st) f (i3 (sm (fun k => S1.1 (20 + 7 * st + k)) k)) (i3 k) m = some (m, i3 (sm (fun k => S1.1 (20 + 7 * st + k)) 7)) := by
    intro f
    induction f with
    | zero => intro k S1 m h1 h2; omega
    | succ f ih =>
      intro k S1 m h1 h2 h
      unfold fX6_closeOn_L26
      rw [n7, iLe (by omega) (by omega)]
      by_cases q : 7 ≤ k
      · have e : k = 7 := by omega
        subst e
        rw [if_pos q]
      · rw [if_neg q, n20, i3m, i3a, i3a, m_rS h (by omega) (by omega)]
        simp only [gLtI, i3a, n1]
        exact ih (k + 1) S1 m (by omega) (by omega) h
  unfold fX6_closeOn
  rw [hp, gLtI, n20, n7, i3m, i3a, i3a, gWrI (by omega) (by omega)]
  have g1 := h.SH (i := 20 + 7 * st + w) (v := v) (by omega) (by omega)
  exact ⟨_, L gFU 0 _ _ (by omega) (by show 7 - 0 < 5000; omega) g1, g1, Fr.up (by omega) (by omega)⟩
theorem m_place {a B s : Nat} {S D : gB} {m : gM} (h : Mr a S D m) (hI : Is B S) (hs : s < 4) : fX6_placeOf a 258 (i3 s) m = some (m, i3 (plc S s)) := by
  obtain ⟨p1, p2, p3⟩ := plc_ok hI hs
  have L : ∀ (f k : Nat), k ≤ plc S s → plc S s - k < f → fX6_placeOf_L2 a 258 (i3 s) f (i3 k) m = some (m, i3 (plc S s)) := by
    intro f
    induction f with
    | zero => intro k h1 h2; omega
    | succ f ih =>
      intro k h1 h2
      have ho := hI.ord (p := k) (by omega)
      unfold fX6_placeOf_L2
      rw [n16, i3a, m_rS h (by omega) (by omega), iEq (by omega) (by omega)]
      by_cases q : S.1 (16 + k) = s
      · rw [if_pos q, p3 k (by omega) q]
      · have e : k ≠ plc S s := fun e => q (by rw [e]; exact p2)
        rw [if_neg q, gLtI, n1, i3a]
        exact ih (k + 1) (by omega) (by omega)
  unfold fX6_placeOf
  exact L gFU 0 (by omega) (by show _ < 5000; omega)
theorem m_swap {a B s t : Nat} {S D : gB} {m : gM} (h : Mr a S D m) (hI : Is B S) (hs : s < 4) (ht : t < 4) : ∃ m', fX6_swapOn a 258 (i3 s) (i3 t) m = some (m', i3 (plc S t)) ∧ Mr a (swS S s t) D m' ∧ Fr a 258 m m' := by
  have p1 := (plc_ok hI hs).1
  have q1 := (plc_ok hI ht).1
  unfold fX6_swapOn
  rw [m_place h hI hs, gClI, m_place h hI ht, gClI, n16, i3a, i3a, gWrI (by omega) (by omega), gWrI (by omega) (by omega)]
  exact ⟨_, rfl, (h.SH (by omega) (by omega)).SH (by omega) (by omega), (Fr.up (by omega) (by omega)).tr (Fr.up (by omega) (by omega))⟩
def Rw (m0 m : gM) (q : Nat) (f : Nat → Nat) : Prop := (∀ j, j < 21 → m (q + j) = i3 (f j)) ∧ Fr q 21 m0 m
theorem rw_up {m0 m : gM} {q j v : Nat} {f : Nat → Nat} (h : Rw m0 m q f) (hj : j < 21) : Rw m0 (upd m (q + j) (i3 v)) q (up f j v) := by
  refine ⟨fun k hk => ?_, h.2.tr (Fr.up (by omega) (by omega))⟩
  by_cases e : k = j
  · subst e
    rw [upd_s, up_s]
  · rw [upd_n (by omega), up_n e]
    exact h.1 k hk
theorem m_addR {a n j v : Nat} {m0 m : gM} {f : Nat → Nat} (hn : n < 10) (hj : j < 21) (h : Rw m0 m (a + (48 + 21 * n)) f) : fX6_add a 258 (i3 n) (i3 j) (i3 v) m = some (upd m (a + (48 + 21 * n) + j) (i3 (f j + v))) := by
  unfold fX6_add
  have e := h.1 j hj
  rw [Nat.add_assoc] at e ⊢
  simp (disch := omega) only [n48, n21, i3a, i3m, gRdI, gWrI, e]
def nwT (st L t : Nat) : Nat → Nat := fun j => if j = 0 then st else if t < j ∧ j < 8 then L / 10 ^ (7 - j) % 10 else 0
theorem m_cust {a B st L : Nat} {S D : gB} {m : gM} (h : Mr a S D m) (hn : S.1 0 < 10) (hL : L < 10000000) : ∃ m', fX6_customerOn a 258 (i3 st) (i3 L) m = some (m', i3 (S.1 0)) ∧ Mr a (nwS S st L) (nwD S D) m' ∧ Fr a 258 m m' := by
  obtain ⟨n, hnn⟩ : ∃ n, n = S.1 0 := ⟨_, rfl⟩
  have L2 : ∀ (r7 : Int32 → gM → Option (gM × Int32)) (f t : Nat) (m1 : gM), t ≤ 7 → t < f → Rw m m1 (a + (48 + 21 * n)) (nwT st L t) → ∃ m', fX6_customerOn_L47 a 258 (i3 n) r7 f (i3 (L / 10 ^ (7 - t))) (i3 t + (-1)) m1 = some (m', i3 n) ∧ Mr a (nwS S st L) (nwD S D) m' ∧ Fr a 258 m m' := by
    intro r7 f
    induction f with
    | zero => intro t m1 h1 h2; omega
    | succ f ih =>
      intro t m1 h1 h2 h4
      unfold fX6_customerOn_L47
      cases t with
      | zero =>
        rw [if_pos (by decide)]
        have e0 : m1 (a + 0) = i3 n := by rw [h4.2 _ (by omega), hnn]; exact h.1 0 (by omega) (by omega)
        rw [n0, gRdI (by omega) (by omega), e0, n1, i3a, gWrI (by omega) (by omega)]
        refine ⟨_, rfl, ?_, (h4.2.sub (by omega) (by omega)).tr (Fr.up (by omega) (by omega))⟩
        have e1 : nwT st L 0 = nwR st L := by
          funext j
          unfold nwT nwR
          by_cases r : j = 0
          · rw [if_pos r, if_pos r]
          · rw [if_neg r, if_neg r]
            by_cases r2 : j < 8
            · rw [if_pos (by omega), if_pos r2]
            · rw [if_neg (by omega), if_neg r2]
        rw [e1] at h4
        have g1 := Mr.cu (s' := nwR st L) (d' := fun _ => 0) h (c := n) (by omega) h4.2 (fun j hj hk => by rw [← Nat.add_assoc]; exact h4.1 j hj) (fun j hj hk => by
          rw [← Nat.add_assoc, h4.1 j (by omega)]
          unfold nwR
          rw [if_neg (by omega), if_neg (by omega)])
        have g2 := g1.SH (i := 0) (v := n + 1) (by omega) (by omega)
        have e2 : sH (cuS S n (nwR st L)) 0 (n + 1) = nwS S st L := by
          rw [hnn]
          rfl
        have e3 : (D.1, up D.2 n (fun _ => 0)) = nwD S D := by
          rw [hnn]
          rfl
        rw [e2, e3] at g2
        exact g2
      | succ t =>
        have e5 : i3 (t + 1) + (-1) = i3 t := by rw [m1n, i3an (by omega)]; rfl
        have hb : L / 10 ^ (7 - (t + 1)) < 2147483648 := Nat.lt_of_le_of_lt (Nat.div_le_self _ _) (by omega)
        rw [e5, if_neg (i3n (by omega)), n1, i3a, n10, i3r hb (by omega), m_addR (by omega) (by omega) h4, gCvI, i3d hb (by omega)]
        have e6 : nwT st L (t + 1) (1 + t) = 0 := by
          unfold nwT
          rw [if_neg (by omega), if_neg (by omega)]
        rw [e6, Nat.zero_add]
        simp only [gLtI]
        have g1 := rw_up (v := L / 10 ^ (7 - (t + 1)) % 10) h4 (j := 1 + t) (by omega)
        have e7 : up (nwT st L (t + 1)) (1 + t) (L / 10 ^ (7 - (t + 1)) % 10) = nwT st L t := by
          funext j
          unfold up nwT
          by_cases r : j = 1 + t
          · subst r
            rw [if_pos rfl, if_neg (by omega), if_pos (by omega), show 7 - (t + 1) = 7 - (1 + t) from by omega]
          · rw [if_neg r]
            by_cases r2 : j = 0
            · rw [if_pos r2, if_pos r2]
            · rw [if_neg r2, if_neg r2]
              by_cases r3 : t + 1 < j ∧ j < 8
              · rw [if_pos r3, if_pos (by omega)]
              · rw [if_neg r3, if_neg (by omega)]
        rw [e7] at g1
        have e8 : L / 10 ^ (7 - (t + 1)) / 10 = L / 10 ^ (7 - t) := by
          rw [Nat.div_div_eq_div_mul, show 7 - t = 7 - (t + 1) + 1 from by omega, Nat.pow_succ]
        rw [e8]
        exact ih t _ (by omega) (by omega) g1
  have L1 : ∀ (f k : Nat) (m1 : gM), k ≤ 21 → 21 - k < f → (∃ g, Rw m m1 (a + (48 + 21 * n)) g ∧ ∀ j, j < k → g j = 0) → ∃ m', fX6_customerOn_L7 a 258 (i3 st) (i3 L) (i3 n) f (i3 k) m1 = some (m', i3 n) ∧ Mr a (nwS S st L) (nwD S D) m' ∧ Fr a 258 m m' := by
    intro f
    induction f with
    | zero => intro k m1 h1 h2; omega
    | succ f ih =>
      intro k m1 h1 h2 h4
      obtain ⟨g, h4, h5⟩ := h4
      unfold fX6_customerOn_L7
      rw [n21, iLe (by omega) (by omega)]
      by_cases q : 21 ≤ k
      · rw [if_pos q, n0, m_addR (by omega) (by omega) h4, gCvI, h5 0 (by omega), Nat.zero_add]
        have g1 := rw_up (v := st) h4 (j := 0) (by omega)
        have g2 : Rw m (upd m1 (a + (48 + 21 * n) + 0) (i3 st)) (a + (48 + 21 * n)) (nwT st L 7) := by
          refine ⟨fun j hj => ?_, g1.2⟩
          rw [g1.1 j hj]
          unfold up nwT
          by_cases r : j = 0
          · rw [if_pos r, if_pos r]
          · rw [if_neg r, if_neg r, if_neg (by omega), h5 j (by omega)]
        have g3 := L2 (fX6_customerOn_L7 a 258 (i3 st) (i3 L) (i3 n) f) gFU 7 _ (by omega) (by show 7 < 5000; omega) g2
        rw [show 7 - 7 = 0 from rfl, Nat.pow_zero, Nat.div_one, show i3 7 + (-1) = 6 from by decide] at g3
        exact g3
      · rw [if_neg q, n48, i3m, i3a, i3a, n0, gWrI (by omega) (by omega), gLtI, n1, i3a, show a + (48 + 21 * n + k) = a + (48 + 21 * n) + k from by omega]
        refine ih (k + 1) _ (by omega) (by omega) ⟨_, rw_up (v := 0) (j := k) h4 (by omega), fun j hj => ?_⟩
        by_cases e : j = k
        · rw [e, up_s]
        · rw [up_n e]
          exact h5 j (by omega)
  unfold fX6_customerOn
  rw [n0, m_rS h (by omega) (by omega), ← hnn]
  refine L1 gFU 0 m (by omega) (by show _ < 5000; omega) ⟨fun j => if 8 ≤ j ∧ j ≤ 13 then D.2 n j else S.2 n j, ⟨fun j hj => ?_, Fr.rf⟩, fun j hj => absurd hj (by omega)⟩
  rw [Nat.add_assoc]
  show m (a + (48 + 21 * n + j)) = i3 (if 8 ≤ j ∧ j ≤ 13 then D.2 n j else S.2 n j)
  by_cases r : 8 ≤ j ∧ j ≤ 13
  · rw [if_pos r]
    exact h.2.2.2 n (by omega) j r.1 r.2
  · rw [if_neg r]
    exact h.2.2.1 n (by omega) j hj (by omega)
