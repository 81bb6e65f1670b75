/-! the reference's functions do what the spec says -/
theorem m_inner {a B p : Nat} {S D : gB} {m : gM} (h : Mr a S D m) (hI : Is B S) (hp : p < 4) (r : Int32 → Int32 → gM → Option (gM × Int32)) : ∀ (f j c left : Nat), c + j = S.1 0 → j < f → left < 1000 → fX6_inRound_L12 a 258 (i3 p) r f (i3 left) (i3 c) m = (match (lst S p c j)[left]? with | some x => some (m, i3 x) | none => r (i3 (left - (lst S p c j).length)) (i3 (p + 1)) m) := by
  have hn := hI.1
  have h16 := hI.ord hp
  intro f
  induction f with
  | zero => intro j c left h1 h2; omega
  | succ f ih =>
    intro j c left h1 h2 h3
    unfold fX6_inRound_L12
    rw [n0, m_rS h (by omega) (by omega), iLe (by omega) (by omega)]
    cases j with
    | zero =>
      rw [if_pos (by omega), gLtI, n1, i3a]
      rfl
    | succ j =>
      have hc : c < S.1 0 := by omega
      have hst := (hI.cust hc).1
      rw [if_neg (by omega), m_ofS h (by omega) (by omega) (by omega), gClI, n16, i3a, m_rS h (by omega) (by omega), iEq (by omega) (by omega)]
      by_cases hs : S.2 c 0 = S.1 (16 + p)
      · rw [if_pos hs]
        have el : lst S p c (j + 1) = c :: lst S p (c + 1) j := by simp [lst, hs]
        rw [el, iEq (by omega) (by omega)]
        by_cases hl : left = 0
        · subst hl
          rw [if_pos rfl]
          rfl
        · rw [if_neg hl, gLtI, gLtI, n1, i3a, i3an (by omega), ih j (c + 1) (left - 1) (by omega) (by omega) (by omega)]
          obtain ⟨w, rfl⟩ : ∃ w, left = w + 1 := ⟨left - 1, by omega⟩
          simp
      · rw [if_neg hs, gLtI, n1, i3a, ih j (c + 1) left (by omega) (by omega) h3]
        have el : lst S p c (j + 1) = lst S p (c + 1) j := by simp [lst, hs]
        rw [el]
theorem m_inRound {a B k : Nat} {S D : gB} {m : gM} (h : Mr a S D m) (hI : Is B S) (hk : k < 1000) : fX6_inRound a 258 (i3 k) m = (match (rnd S)[k]? with | some x => some (m, i3 x) | none => some (m, -1)) := by
  have hn := hI.1
  have L : ∀ (f q p left : Nat), p + q = 4 → q < f → left < 1000 → fX6_inRound_L4 a 258 f (i3 left) (i3 p) m = (match (rndF S p q)[left]? with | some x => some (m, i3 x) | none => some (m, -1)) := by
    intro f
    induction f with
    | zero => intro q p left h1 h2; omega
    | succ f ih =>
      intro q p left h1 h2 h3
      unfold fX6_inRound_L4
      rw [n4, iLe (by omega) (by omega)]
      cases q with
      | zero =>
        rw [if_pos (by omega)]
        rfl
      | succ q =>
        rw [if_neg (by omega), n0, m_inner h hI (by omega) _ gFU (S.1 0) 0 left (by omega) (by show S.1 0 < 5000; omega) h3]
        have e : rndF S p (q + 1) = lst S p 0 (S.1 0) ++ rndF S (p + 1) q := rfl
        rw [e]
        by_cases hl : left < (lst S p 0 (S.1 0)).length
        · rw [List.getElem?_append_left hl, List.getElem?_eq_getElem hl]
        · rw [List.getElem?_append_right (by omega), List.getElem?_eq_none (by omega)]
          exact ih q (p + 1) _ (by omega) (by omega) (by omega)
  unfold fX6_inRound
  rw [n0]
  exact L gFU 4 0 k rfl (by show 4 < 5000; omega) hk
theorem m_addD {a c j v : Nat} {S D : gB} {m : gM} (h : Mr a S D m) (hc : c < 10) (hj : 8 ≤ j) (hk : j ≤ 13) : fX6_add a 258 (i3 c) (i3 j) (i3 v) m = some (upd m (a + (48 + 21 * c + j)) (i3 (D.2 c j + v))) := by
  unfold fX6_add
  simp (disch := omega) only [n48, n21, i3a, i3m, gRdI, gWrI, h.2.2.2 c hc j hj hk]
theorem m_subD {a c j v : Nat} {S D : gB} {m : gM} (h : Mr a S D m) (hc : c < 10) (hj : 8 ≤ j) (hk : j ≤ 13) (hv : v ≤ D.2 c j) : fX6_add a 258 (i3 c) (i3 j) (-(i3 v)) m = some (upd m (a + (48 + 21 * c + j)) (i3 (D.2 c j - v))) := by
  unfold fX6_add
  simp (disch := omega) only [n48, n21, i3a, i3m, gRdI, gWrI, h.2.2.2 c hc j hj hk, i3an hv]
theorem m_wD {β : Type} {a i v : Nat} {S D : gB} {m : gM} (h : Mr a S D m) (hi : 2 ≤ i) (hj : i ≤ 10) {k : gM → Option β} : gWr m a 258 (i3 i) (i3 v) k = k (upd m (a + i) (i3 v)) := gWrI (by omega) (by omega)
theorem m_gd {a B c d van : Nat} {S D : gB} {m : gM} (h : Mr a S D m) (hI : Is B S) (hc : c < S.1 0) (hd : d < 1000000) (hv : van < 1000) : ∃ m', fX6_giveDue a 258 (i3 c) (i3 d) (i3 van) m = some (m', i3 (stD S d (D, van) c).2) ∧ Mr a S (stD S d (D, van) c).1 m' ∧ Fr a 258 m m' := by
  have hc10 : c < 10 := by have := hI.1; omega
  have hdu := du_le (d := d) hI hc
  unfold fX6_giveDue stD
  obtain ⟨due, hdue⟩ : ∃ due, due = du S c d := ⟨_, rfl⟩
  rw [m_du h hI hc hd, gClI, m_op h hI hc hd, gClI]
  rw [← hdue] at hdu ⊢
  simp only
  obtain ⟨g, hg⟩ : ∃ g, g = if op S c d = true then min due van else 0 := ⟨_, rfl⟩
  rw [← hg]
  have hgv : g ≤ van ∧ g ≤ due := by
    rw [hg]
    split
    · exact ⟨Nat.min_le_right _ _, Nat.min_le_left _ _⟩
    · exact ⟨Nat.zero_le _, Nat.zero_le _⟩
  have e1 : (if bI (op S c d) = 0 then (0 : Int32) else if i3 van ≤ i3 due then i3 van else i3 due) = i3 g := by
    rw [iB0, hg, imin (by omega) (by omega)]
    cases op S c d <;> rfl
  rw [e1, gLtI]
  obtain ⟨mi, hmi⟩ : ∃ mi, mi = if 0 < due ∧ g = 0 then 1 else 0 := ⟨_, rfl⟩
  obtain ⟨la, hla⟩ : ∃ la, la = if 0 < g ∧ g < due then 1 else 0 := ⟨_, rfl⟩
  rw [← hmi, ← hla]
  have e2 : (if i3 due ≤ 0 then (0 : Int32) else if i3 g = 0 then 1 else 0) = i3 mi := by
    rw [n0, n1, iLe (by omega) (by omega), iEq (by omega) (by omega), hmi]
    by_cases q1 : due ≤ 0
    · rw [if_pos q1, if_neg (by omega)]
    · rw [if_neg q1]
      by_cases q2 : g = 0
      · rw [if_pos q2, if_pos (by omega)]
      · rw [if_neg q2, if_neg (by omega)]
  have e3 : (if i3 g ≤ 0 then (0 : Int32) else if i3 due ≤ i3 g then 0 else 1) = i3 la := by
    rw [n0, n1, iLe (by omega) (by omega), iLe (by omega) (by omega), hla]
    by_cases q1 : g ≤ 0
    · rw [if_pos q1, if_neg (by omega)]
    · rw [if_neg q1]
      by_cases q2 : due ≤ g
      · rw [if_pos q2, if_neg (by omega)]
      · rw [if_neg q2, if_pos (by omega)]
  rw [n7, m_rD h (by omega) (by omega), n15, m_rS h (by omega) (by omega), i3m, i3a, m_wD h (by omega) (by omega)]
  have h1 := h.DH (i := 7) (v := D.1 7 + due * S.1 15) (by omega) (by omega)
  have f1 : Fr a 258 m _ := Fr.up (y := a + 7) (v := i3 (D.1 7 + due * S.1 15)) (by omega) (by omega)
  generalize upd m (a + 7) _ = m1 at h1 f1 ⊢
  generalize sH D 7 _ = D1 at h1 ⊢
  rw [n3, m_rD h1 (by omega) (by omega), i3a, m_wD h1 (by omega) (by omega)]
  have h2 := h1.DH (i := 3) (v := D1.1 3 + g) (by omega) (by omega)
  have f2 := f1.tr (Fr.up (y := a + 3) (v := i3 (D1.1 3 + g)) (by omega) (by omega))
  generalize upd m1 (a + 3) _ = m2 at h2 f2 ⊢
  generalize sH D1 3 _ = D2 at h2 ⊢
  rw [n9, m_addD h2 hc10 (by omega) (by omega), gCvI]
  have h3 := h2.DC (c := c) (j := 9) (v := D2.2 c 9 + g) hc10 (by omega) (by omega)
  have f3 := f2.tr (Fr.up (y := a + (48 + 21 * c + 9)) (v := i3 (D2.2 c 9 + g)) (by omega) (by omega))
  generalize upd m2 _ _ = m3 at h3 f3 ⊢
  generalize sC D2 c 9 _ = D3 at h3 ⊢
  rw [n8, i3s hgv.2, m_addD h3 hc10 (by omega) (by omega), gCvI]
  have h4 := h3.DC (c := c) (j := 8) (v := D3.2 c 8 + (due - g)) hc10 (by omega) (by omega)
  have f4 := f3.tr (Fr.up (y := a + (48 + 21 * c + 8)) (v := i3 (D3.2 c 8 + (due - g))) (by omega) (by omega))
  generalize upd m3 _ _ = m4 at h4 f4 ⊢
  generalize sC D3 c 8 _ = D4 at h4 ⊢
  rw [e2, gLtI, e3, gLtI, m_rD h4 (by omega) (by omega), i3a, m_wD h4 (by omega) (by omega)]
  have h5 := h4.DH (i := 9) (v := D4.1 9 + mi) (by omega) (by omega)
  have f5 := f4.tr (Fr.up (y := a + 9) (v := i3 (D4.1 9 + mi)) (by omega) (by omega))
  generalize upd m4 (a + 9) _ = m5 at h5 f5 ⊢
  generalize sH D4 9 _ = D5 at h5 ⊢
  rw [n10, m_rD h5 (by omega) (by omega), i3a, m_wD h5 (by omega) (by omega)]
  have h6 := h5.DH (i := 10) (v := D5.1 10 + la) (by omega) (by omega)
  have f6 := f5.tr (Fr.up (y := a + 10) (v := i3 (D5.1 10 + la)) (by omega) (by omega))
  generalize upd m5 (a + 10) _ = m6 at h6 f6 ⊢
  generalize sH D5 10 _ = D6 at h6 ⊢
  rw [n12, m_addD h6 hc10 (by omega) (by omega), gCvI]
  have h7 := h6.DC (c := c) (j := 12) (v := D6.2 c 12 + mi) hc10 (by omega) (by omega)
  have f7 := f6.tr (Fr.up (y := a + (48 + 21 * c + 12)) (v := i3 (D6.2 c 12 + mi)) (by omega) (by omega))
  generalize upd m6 _ _ = m7 at h7 f7 ⊢
  generalize sC D6 c 12 _ = D7 at h7 ⊢
  rw [n13, m_addD h7 hc10 (by omega) (by omega), gCvI]
  have h8 := h7.DC (c := c) (j := 13) (v := D7.2 c 13 + la) hc10 (by omega) (by omega)
  have f8 := f7.tr (Fr.up (y := a + (48 + 21 * c + 13)) (v := i3 (D7.2 c 13 + la)) (by omega) (by omega))
  exact ⟨_, by rw [i3s hgv.1], h8, f8⟩
theorem m_may {β : Type} {a B c d : Nat} {S D : gB} {m : gM} (h : Mr a S D m) (hI : Is B S) (hc : c < S.1 0) (hd : d < 1000000) (K : Int32 → gM → Option β) : (gLt K fun k => (if bI (op S c d) = 0 then k 0 m else gCl (fX6_isAway a 258 (i3 c) (i3 d) m) fun m2 x => (if x = 0 then k 1 m2 else k 0 m2))) = K (bI (op S c d && !aw S c d)) m := by
  rw [gLtI, m_aw h hI hc hd, iB0]
  cases op S c d
  · rfl
  · simp only [if_true]
    rw [gClI, iB0]
    cases aw S c d <;> rfl
theorem m_most {β : Type} {a B c : Nat} {S D : gB} {m : gM} (h : Mr a S D m) (hI : Is B S) (hc : c < S.1 0) (hcr : D.2 c 8 < 1000000) (K : Int32 → gM → Option β) : (gLt K fun k => (if i3 (S.1 13) ≤ i3 (D.2 c 8) then gRd m a 258 13 fun x => k x m else gCl (fX6_of a 258 (i3 c) 8 m) fun m2 x => k x m2)) = K (i3 (min (D.2 c 8) (S.1 13))) m := by
  have hc10 : c < 10 := by have := hI.1; omega
  have h13 := hI.2.2.1
  rw [gLtI, n13, m_rS h (by omega) (by omega), n8, m_ofD h hc10 (by omega) (by omega), gClI, iLe (by omega) (by omega)]
  by_cases q : S.1 13 ≤ D.2 c 8
  · rw [if_pos q, Nat.min_eq_right q]
  · rw [if_neg q, Nat.min_eq_left (by omega)]
theorem m_gg {a B c d van : Nat} {S D : gB} {m : gM} (h : Mr a S D m) (hI : Is B S) (hc : c < S.1 0) (hd : d < 1000000) (hv : van < 1000) (hcr : D.2 c 8 < 1000000) : ∃ m', fX6_giveGood a 258 (i3 c) (i3 d) (i3 van) m = some (m', i3 (stG S d (D, van) c).2) ∧ Mr a S (stG S d (D, van) c).1 m' ∧ Fr a 258 m m' := by
  have hc10 : c < 10 := by have := hI.1; omega
  have h13 := hI.2.2.1
  unfold fX6_giveGood stG
  rw [m_op h hI hc hd, gClI, m_may h hI hc hd]
  simp only
  obtain ⟨g, hg⟩ : ∃ g, g = if (op S c d && !aw S c d) = true then min (min (D.2 c 8) (S.1 13)) van else 0 := ⟨_, rfl⟩
  rw [← hg]
  have hgv : g ≤ van ∧ g ≤ D.2 c 8 := by
    rw [hg]
    split
    · exact ⟨Nat.min_le_right _ _, Nat.le_trans (Nat.min_le_left _ _) (Nat.min_le_left _ _)⟩
    · exact ⟨Nat.zero_le _, Nat.zero_le _⟩
  rw [n8, m_ofD h hc10 (by omega) (by omega), gClI, n13, m_rS h (by omega) (by omega)]
  rw [← n8, ← n13, m_most h hI hc hcr]
  have e1 : (if bI (op S c d && !aw S c d) = 0 then (0 : Int32) else if i3 van ≤ i3 (min (D.2 c 8) (S.1 13)) then i3 van else i3 (min (D.2 c 8) (S.1 13))) = i3 g := by
    rw [iB0, hg, imin (by omega) (by omega)]
    cases (op S c d && !aw S c d) <;> rfl
  rw [e1, gLtI, n4, m_rD h (by omega) (by omega), i3a, m_wD h (by omega) (by omega)]
  have h1 := h.DH (i := 4) (v := D.1 4 + g) (by omega) (by omega)
  have f1 : Fr a 258 m _ := Fr.up (y := a + 4) (v := i3 (D.1 4 + g)) (by omega) (by omega)
  generalize upd m (a + 4) _ = m1 at h1 f1 ⊢
  have k1 : (sH D 4 (D.1 4 + g)).2 = D.2 := rfl
  generalize sH D 4 _ = D1 at h1 k1 ⊢
  rw [n10, m_addD h1 hc10 (by omega) (by omega), gCvI]
  have h2 := h1.DC (c := c) (j := 10) (v := D1.2 c 10 + g) hc10 (by omega) (by omega)
  have f2 := f1.tr (Fr.up (y := a + (48 + 21 * c + 10)) (v := i3 (D1.2 c 10 + g)) (by omega) (by omega))
  generalize upd m1 _ _ = m2 at h2 f2 ⊢
  have k2 : (sC D1 c 10 (D1.2 c 10 + g)).2 c 8 = D.2 c 8 := by
    rw [← k1]
    simp [sC, up]
  generalize sC D1 c 10 _ = D2 at h2 k2 ⊢
  rw [n8, m_subD h2 hc10 (by omega) (by omega) (by omega), gCvI]
  have h3 := h2.DC (c := c) (j := 8) (v := D2.2 c 8 - g) hc10 (by omega) (by omega)
  have f3 := f2.tr (Fr.up (y := a + (48 + 21 * c + 8)) (v := i3 (D2.2 c 8 - g)) (by omega) (by omega))
  exact ⟨_, by rw [i3s hgv.1], h3, f3⟩
theorem sC_id {D : gB} {c j : Nat} : sC D c j (D.2 c j) = D := by
  unfold sC
  have e : up D.2 c (up (D.2 c) j (D.2 c j)) = D.2 := by
    funext c'
    unfold up
    split
    · rename_i q
      subst q
      funext j'
      split
      · rename_i q
        rw [q]
      · rfl
    · rfl
  rw [e]
theorem sH_id {D : gB} {i : Nat} : sH D i (D.1 i) = D := by
  unfold sH
  have e : up D.1 i (D.1 i) = D.1 := by
    funext i'
    unfold up
    split
    · rename_i q
      rw [q]
    · rfl
  rw [e]
theorem m_pb {a B c : Nat} {S D : gB} {m : gM} (h : Mr a S D m) (hI : Is B S) (hc : c < S.1 0) (hcr : D.2 c 8 < 1000000) : ∃ m', fX6_payBack a 258 (i3 c) m = some m' ∧ Mr a S (stP S D c) m' ∧ Fr a 258 m m' := by
  have hc10 : c < 10 := by have := hI.1; omega
  have h13 := hI.2.2.1
  unfold fX6_payBack stP
  rw [n8, m_ofD h hc10 (by omega) (by omega), gClI, n14, m_rS h (by omega) (by omega), gLtI, iSle (by omega) (by omega)]
  simp only
  obtain ⟨g, hg⟩ : ∃ g, g = D.2 c 8 - S.1 14 := ⟨_, rfl⟩
  rw [← hg]
  by_cases q : D.2 c 8 ≤ S.1 14
  · rw [if_pos q]
    have g0 : g = 0 := by omega
    rw [g0]
    refine ⟨m, rfl, ?_, Fr.rf⟩
    rw [Nat.sub_zero, sC_id, Nat.add_zero, sC_id, Nat.add_zero, sH_id, Nat.zero_mul, Nat.add_zero, sH_id]
    exact h
  · rw [if_neg q, i3s (by omega), ← hg, m_subD h hc10 (by omega) (by omega) (by omega), gCvI]
    have h1 := h.DC (c := c) (j := 8) (v := D.2 c 8 - g) hc10 (by omega) (by omega)
    have f1 : Fr a 258 m _ := Fr.up (y := a + (48 + 21 * c + 8)) (v := i3 (D.2 c 8 - g)) (by omega) (by omega)
    generalize upd m _ _ = m1 at h1 f1 ⊢
    generalize sC D c 8 _ = D1 at h1 ⊢
    rw [n11, m_addD h1 hc10 (by omega) (by omega), gCvI]
    have h2 := h1.DC (c := c) (j := 11) (v := D1.2 c 11 + g) hc10 (by omega) (by omega)
    have f2 := f1.tr (Fr.up (y := a + (48 + 21 * c + 11)) (v := i3 (D1.2 c 11 + g)) (by omega) (by omega))
    generalize upd m1 _ _ = m2 at h2 f2 ⊢
    generalize sC D1 c 11 _ = D2 at h2 ⊢
    rw [n6, m_rD h2 (by omega) (by omega), i3a, m_wD h2 (by omega) (by omega)]
    have h3 := h2.DH (i := 6) (v := D2.1 6 + g) (by omega) (by omega)
    have f3 := f2.tr (Fr.up (y := a + 6) (v := i3 (D2.1 6 + g)) (by omega) (by omega))
    generalize upd m2 (a + 6) _ = m3 at h3 f3 ⊢
    generalize sH D2 6 _ = D3 at h3 ⊢
    rw [← n8, n8, m_rD h3 (by omega) (by omega), n15, m_rS h3 (by omega) (by omega), i3m, i3a, m_wD h3 (by omega) (by omega)]
    have h4 := h3.DH (i := 8) (v := D3.1 8 + g * S.1 15) (by omega) (by omega)
    have f4 := f3.tr (Fr.up (y := a + 8) (v := i3 (D3.1 8 + g * S.1 15)) (by omega) (by omega))
    exact ⟨_, rfl, h4, f4⟩
