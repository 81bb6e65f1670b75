theorem c_ho {b B : Nat} {S : gB} {hh : Nat} (hI : Is B S) (hd : S.1 1 < 1000000) : ∀ (f j k van : Nat) (D : gB) (m : gM), k + j = S.1 0 → j < f → van < 1000 → Cx b S D hh m → Vs b S m → ∃ m', fX0_handOut_L4 b f (i3 van) (i3 k) m = some (m', i3 (((rnd S).drop k).foldl (stD S (S.1 1)) (D, van)).2) ∧ Cx b S (((rnd S).drop k).foldl (stD S (S.1 1)) (D, van)).1 hh m' ∧ Fb b m m' := by
  have hn := hI.1
  have hl := rnd_len hI
  intro f
  induction f with
  | zero => intro j k van D m h1 h2; omega
  | succ f ih =>
    intro j k van D m h1 h2 hv h hvs
    unfold fX0_handOut_L4
    rw [h.h0, gLtI, iLe (by omega) (by omega)]
    cases j with
    | zero =>
      rw [if_pos (by omega), List.drop_eq_nil_of_le (by omega)]
      exact ⟨m, rfl, h, Fb.rf⟩
    | succ j =>
      obtain ⟨c, hc, e1, e2⟩ := rnd_at hI (k := k) (by omega)
      have hdu := du_le (d := S.1 1) hI hc
      rw [if_neg (by omega), gRdI (by omega) (by omega), hvs k c e1, gEl10 (by omega), h.h1, gLtI, c_du (h.c hc) (hI.cust hc) hd, gClI, c_reach h hI hc hd, gClI]
      rw [show duS (S.2 c) (S.1 1) = du S c (S.1 1) from rfl]
      obtain ⟨g, hg⟩ : ∃ g, g = if op S c (S.1 1) = true then min (du S c (S.1 1)) van else 0 := ⟨_, rfl⟩
      obtain ⟨mi, hmi⟩ : ∃ mi, mi = if 0 < du S c (S.1 1) ∧ g = 0 then 1 else 0 := ⟨_, rfl⟩
      obtain ⟨la, hla⟩ : ∃ la, la = if 0 < g ∧ g < du S c (S.1 1) then 1 else 0 := ⟨_, rfl⟩
      have hgv : g ≤ van ∧ g ≤ du S c (S.1 1) := by
        rw [hg]
        split
        · exact ⟨Nat.min_le_right _ _, Nat.min_le_left _ _⟩
        · exact ⟨Nat.zero_le _, Nat.zero_le _⟩
      have e3 : ∀ (K : Int32 → Option (gM × Int32)), (gLt K fun k15 => (if bI (op S c (S.1 1)) = 0 then k15 0 else gLt (jmin (i3 (du S c (S.1 1))) (i3 van)) fun x26 => k15 x26)) = K (i3 g) := by
        intro K
        rw [gLtI, iB0, hg]
        cases op S c (S.1 1) with
        | false => rfl
        | true =>
          simp only [if_true]
          rw [jminI (by omega) (by omega), gLtI]
      rw [e3, h.h4, gLtI, n4, h.rS (by omega), i3m, i3a, gLtI, show 11 + 4 = 15 from rfl]
      have h1 := h.D7 (v := D.1 7 + du S c (S.1 1) * S.1 15)
      have f1 : Fb b m _ := Fb.up (m := m) (y := b + 4) (v := i3 (D.1 7 + du S c (S.1 1) * S.1 15)) (by omega) (by omega) (by omega)
      obtain ⟨D1, hD1⟩ : ∃ D1, D1 = sH D 7 (D.1 7 + du S c (S.1 1) * S.1 15) := ⟨_, rfl⟩
      rw [← hD1] at h1
      generalize upd m (b + 4) _ = m1 at h1 f1 ⊢
      have h2 := h1.DH (i := 3) (v := D1.1 3 + g) (by omega) (by omega) (by omega)
      obtain ⟨m2, r1, r2, r3⟩ := c_recv h2 hc hdu hgv.2 hmi hla
      rw [r1, gCvI, i3s hgv.1, gLtI, gLtI, n1, i3a, e2, List.foldl_cons]
      have hE := stD_eq (D := D) hg hmi hla
      have f2 : Fb b m m2 := f1.tr (fun x hx => r3 x (by omega))
      have h3 : Cx b S (stD S (S.1 1) (D, van) c).1 hh m2 := by
        rw [hE]
        have h4 := (r2.DH (i := 9) (v := D.1 9 + mi) (by omega) (by omega) (by omega)).DH (i := 10) (v := D.1 10 + la) (by omega) (by omega) (by omega)
        have e5 : D1.1 3 = D.1 3 := by rw [hD1]; simp [sH, up]
        have e6 : (sH D1 3 (D1.1 3 + g)).2 = D.2 := by rw [hD1]; rfl
        rw [e6, e5, hD1] at h4
        exact h4
      have h5 : (stD S (S.1 1) (D, van) c).2 = van - g := by rw [hE]
      obtain ⟨m3, s1, s2, s3⟩ := ih j (k + 1) (stD S (S.1 1) (D, van) c).2 (stD S (S.1 1) (D, van) c).1 m2 (by omega) (by omega) (by omega) h3 (hvs.fb hI f2)
      rw [h5] at s1
      have e7 : ((stD S (S.1 1) (D, van) c).1, van - g) = stD S (S.1 1) (D, van) c := by rw [← h5]
      rw [e7] at s1
      exact ⟨m3, s1, s2, f2.tr s3⟩
theorem c_mg {b B : Nat} {S : gB} {hh : Nat} (hI : Is B S) (hd : S.1 1 < 1000000) : ∀ (f j k van : Nat) (D : gB) (m : gM), k + j = S.1 0 → j < f → van < 1000 → Cx b S D hh m → Vs b S m → (∀ i, i < S.1 0 → D.2 i 8 ≤ 1000) → ∃ m', fX0_makeGood_L4 b f (i3 van) (i3 k) m = some (m', i3 (((rnd S).drop k).foldl (stG S (S.1 1)) (D, van)).2) ∧ Cx b S (((rnd S).drop k).foldl (stG S (S.1 1)) (D, van)).1 hh m' ∧ Fb b m m' := by
  have hn := hI.1
  have hl := rnd_len hI
  have h13 := hI.2.2.1
  intro f
  induction f with
  | zero => intro j k van D m h1 h2; omega
  | succ f ih =>
    intro j k van D m h1 h2 hv h hvs hcr
    unfold fX0_makeGood_L4
    rw [h.h0, gLtI, iLe (by omega) (by omega)]
    cases j with
    | zero =>
      rw [if_pos (by omega), List.drop_eq_nil_of_le (by omega)]
      exact ⟨m, rfl, h, Fb.rf⟩
    | succ j =>
      obtain ⟨c, hc, e1, e2⟩ := rnd_at hI (k := k) (by omega)
      have hcc := hcr c hc
      rw [if_neg (by omega), gRdI (by omega) (by omega), hvs k c e1, gEl10 (by omega), c_reach h hI hc hd, gClI, e2, List.foldl_cons]
      obtain ⟨g, hg⟩ : ∃ g, g = if (op S c (S.1 1) && !aw S c (S.1 1)) = true then min (min (D.2 c 8) (S.1 13)) van else 0 := ⟨_, rfl⟩
      have hE : stG S (S.1 1) (D, van) c = (sC (sC (sH D 4 (D.1 4 + g)) c 10 (D.2 c 10 + g)) c 8 (D.2 c 8 - g), van - g) := by
        unfold stG
        simp only
        rw [← hg]
        simp [sH, sC, up]
      obtain ⟨g', q1, q2, q3, q4, q5, q6, q7, q8, q9⟩ := stG_spec S (S.1 1) D van c
      have hcr2 : ∀ i, i < S.1 0 → (stG S (S.1 1) (D, van) c).1.2 i 8 ≤ 1000 := fun i hi => by
        by_cases e : i = c
        · subst e
          rw [q7]
          omega
        · rw [q6 i e]
          exact hcr i hi
      have h4 : Cx b S (sH D 4 (D.1 4 + g)) hh m := h.DH (by omega) (by omega) (by omega)
      by_cases hop : (op S c (S.1 1) && !aw S c (S.1 1)) = true
      · have ho : op S c (S.1 1) = true ∧ aw S c (S.1 1) = false := by simpa using hop
        rw [if_pos hop] at hg
        have hgv : g ≤ van ∧ g ≤ D.2 c 8 := by
          rw [hg]
          exact ⟨Nat.min_le_right _ _, Nat.le_trans (Nat.min_le_left _ _) (Nat.min_le_left _ _)⟩
        rw [gLtI, iB0, if_pos ho.1, h.h1, gLtI]
        unfold fX1_isAwayOn
        rw [(h.c hc).f7, gLtI, c_aw (h.c hc) (hI.cust hc) hd (Nat.le_refl _), gClI]
        rw [show awK (S.2 c) (S.1 1) (S.2 c 14) = aw S c (S.1 1) from rfl, ho.2, gRzB, gClI, iB0, if_neg (by decide), (h.c hc).f1, gLtI, n2, h.rS (by omega), show 11 + 2 = 13 from rfl, jminI (by omega) (by omega), gLtI, jminI (by omega) (by omega), gLtI, Nat.min_comm van, ← hg]
        unfold fX1_receiveForCredit
        rw [(h4.c hc).f3, gLtI, i3a, gLtI]
        have h5 := h4.DC (i := 2) (v := D.2 c 10 + g) hc (by omega)
        rw [show 1 + 2 = 3 from rfl, show 8 + 2 = 10 from rfl] at h5
        have f1 : Fb b m _ := Fb.up (m := m) (y := b + 11 + 57 + 24 * c + 3) (v := i3 (D.2 c 10 + g)) (by omega) (by omega) (by omega)
        have k1 : (sC (sH D 4 (D.1 4 + g)) c 10 (D.2 c 10 + g)).2 c 8 = D.2 c 8 := by simp [sC, sH, up]
        rw [show (sH D 4 (D.1 4 + g)).2 c 10 = D.2 c 10 from rfl]
        generalize upd m (b + 11 + 57 + 24 * c + 3) _ = m1 at h5 f1 ⊢
        have k2 := (h5.c hc).f1
        rw [k1] at k2
        rw [k2, gLtI, i3s hgv.2, gLtI]
        have h6 := h5.DC (i := 0) (v := D.2 c 8 - g) hc (by omega)
        rw [show 1 + 0 = 1 from rfl, show 8 + 0 = 8 from rfl] at h6
        have f2 := f1.tr (Fb.up (m := m1) (y := b + 11 + 57 + 24 * c + 1) (v := i3 (D.2 c 8 - g)) (by omega) (by omega) (by omega))
        generalize upd m1 (b + 11 + 57 + 24 * c + 1) _ = m2 at h6 f2 ⊢
        rw [gCvI, i3s hgv.1]
        simp only [gLtI]
        rw [n1, i3a]
        have h3 : Cx b S (stG S (S.1 1) (D, van) c).1 hh m2 := by
          rw [hE]
          exact h6
        have h5 : (stG S (S.1 1) (D, van) c).2 = van - g := by rw [hE]
        obtain ⟨m3, s1, s2, s3⟩ := ih j (k + 1) (stG S (S.1 1) (D, van) c).2 (stG S (S.1 1) (D, van) c).1 m2 (by omega) (by omega) (by omega) h3 (hvs.fb hI f2) hcr2
        rw [h5] at s1
        have e7 : ((stG S (S.1 1) (D, van) c).1, van - g) = stG S (S.1 1) (D, van) c := by rw [← h5]
        rw [e7] at s1
        exact ⟨m3, s1, s2, f2.tr s3⟩
      · rw [if_neg hop] at hg
        subst hg
        have hE2 : stG S (S.1 1) (D, van) c = (D, van) := by
          rw [hE]
          simp only [Nat.add_zero, Nat.sub_zero]
          rw [sH_id, sC_id, sC_id]
        rw [hE2]
        rw [hE2] at hcr2
        obtain ⟨m3, s1, s2, s3⟩ := ih j (k + 1) van D m (by omega) (by omega) (by omega) h hvs hcr2
        refine ⟨m3, ?_, s2, s3⟩
        rw [← s1, gLtI, iB0]
        cases ho : op S c (S.1 1) with
        | false =>
          rw [if_neg (by decide)]
          simp only [gLtI, n1, i3a]
        | true =>
          have ha : aw S c (S.1 1) = true := by
            rw [ho] at hop
            simpa using hop
          rw [if_pos rfl, h.h1, gLtI]
          unfold fX1_isAwayOn
          rw [(h.c hc).f7, gLtI, c_aw (h.c hc) (hI.cust hc) hd (Nat.le_refl _), gClI]
          rw [show awK (S.2 c) (S.1 1) (S.2 c 14) = aw S c (S.1 1) from rfl, ha, gRzB, gClI, iB0, if_pos rfl]
          simp only [gLtI, n1, i3a]
theorem c_pb {b B : Nat} {S : gB} {hh : Nat} (hI : Is B S) : ∀ (f j c : Nat) (D : gB) (m : gM), c + j = S.1 0 → j < f → Cx b S D hh m → (∀ i, i < S.1 0 → D.2 i 8 ≤ 1000) → ∃ m', fX0_payBack_L2 b f (i3 c) m = some m' ∧ Cx b S ((List.range' c j).foldl (stP S) D) hh m' ∧ Fb b m m' := by
  have hn := hI.1
  have h13 := hI.2.2.1
  intro f
  induction f with
  | zero => intro j k D m h1 h2; omega
  | succ f ih =>
    intro j c D m h1 h2 h hcr
    unfold fX0_payBack_L2
    rw [h.h0, gLtI, iLe (by omega) (by omega)]
    cases j with
    | zero =>
      rw [if_pos (by omega)]
      exact ⟨m, rfl, h, Fb.rf⟩
    | succ j =>
      have hc : c < S.1 0 := by omega
      have hcc := hcr c hc
      rw [if_neg (by omega), h.h5, gLtI, gEl10 (by omega), n3, h.rS (by omega), show 11 + 3 = 14 from rfl]
      unfold fX1_cutCredit
      have e0 : jmax 0 (i3 (D.2 c 8) - i3 (S.1 14)) = i3 (D.2 c 8 - S.1 14) := by
        unfold jmax
        by_cases q : D.2 c 8 ≤ S.1 14
        · have e : ¬ (0 : Int32) < i3 (D.2 c 8) - i3 (S.1 14) := by
            intro q2
            have q3 := (i3sle (a := D.2 c 8) (b := S.1 14) (by omega) (by omega)).mpr q
            exact absurd q2 (Int32.not_lt.mpr q3)
          rw [if_neg e, show D.2 c 8 - S.1 14 = 0 from by omega]
          rfl
        · rw [i3s (by omega), n0, iLt (by omega) (by omega), if_pos (by omega)]
      rw [(h.c hc).f1, gLtI, e0, gLtI, gLtI, i3s (by omega), gLtI]
      obtain ⟨g, hg⟩ : ∃ g, g = D.2 c 8 - S.1 14 := ⟨_, rfl⟩
      rw [← hg]
      have hE : stP S D c = sH (sH (sC (sC D c 8 (D.2 c 8 - g)) c 11 (D.2 c 11 + g)) 6 (D.1 6 + g)) 8 (D.1 8 + g * S.1 15) := by
        unfold stP
        simp only
        rw [← hg]
        simp [sH, sC, up]
      have h5 := h.DC (i := 0) (v := D.2 c 8 - g) hc (by omega)
      rw [show 1 + 0 = 1 from rfl, show 8 + 0 = 8 from rfl] at h5
      have f1 : Fb b m _ := Fb.up (m := m) (y := b + 11 + 57 + 24 * c + 1) (v := i3 (D.2 c 8 - g)) (by omega) (by omega) (by omega)
      have k1 : (sC D c 8 (D.2 c 8 - g)).2 c 11 = D.2 c 11 := by simp [sC, up]
      generalize upd m (b + 11 + 57 + 24 * c + 1) _ = m1 at h5 f1 ⊢
      have k2 := (h5.c hc).f4
      rw [k1] at k2
      rw [k2, gLtI, i3a, gLtI, gClI]
      have h6 := h5.DC (i := 3) (v := D.2 c 11 + g) hc (by omega)
      rw [show 1 + 3 = 4 from rfl, show 8 + 3 = 11 from rfl] at h6
      have f2 := f1.tr (Fb.up (m := m1) (y := b + 11 + 57 + 24 * c + 4) (v := i3 (D.2 c 11 + g)) (by omega) (by omega) (by omega))
      generalize upd m1 (b + 11 + 57 + 24 * c + 4) _ = m2 at h6 f2 ⊢
      rw [n4, h6.rS (by omega), show 11 + 4 = 15 from rfl, i3m, i3a, gLtI]
      have h7 := (h6.DH (i := 6) (v := D.1 6 + g) (by omega) (by omega) (by omega)).D8 (v := D.1 8 + g * S.1 15)
      have f3 := f2.tr (Fb.up (m := m2) (y := b + 5) (v := i3 (D.1 8 + g * S.1 15)) (by omega) (by omega) (by omega))
      generalize upd m2 (b + 5) _ = m3 at h7 f3 ⊢
      rw [gLtI, n1, i3a, List.range'_succ, List.foldl_cons]
      rw [← hE] at h7
      obtain ⟨m4, s1, s2, s3⟩ := ih j (c + 1) (stP S D c) m3 (by omega) (by omega) h7 (fun i hi => by
        obtain ⟨g', q1, q2, q3, q4, q5, q6, q7, q8⟩ := stP_spec S D c
        by_cases e : i = c
        · subst e
          rw [q6]
          omega
        · rw [q5 i e]
          exact hcr i hi)
      exact ⟨m4, s1, s2, f3.tr s3⟩
def Cb (b : Nat) (S D : gB) (m : gM) : Prop := Cx b S D (D.1 2) m
theorem dayD_eq (S D : gB) : dayD S D = (List.range' 0 (S.1 0)).foldl (stP S) (sH ((rnd S).foldl (stG S (S.1 1)) ((rnd S).foldl (stD S (S.1 1)) (sH D 2 (D.1 2 + bk S (S.1 1)), bk S (S.1 1)))).1 5 (((rnd S).foldl (stG S (S.1 1)) ((rnd S).foldl (stD S (S.1 1)) (sH D 2 (D.1 2 + bk S (S.1 1)), bk S (S.1 1)))).1.1 5 + ((rnd S).foldl (stG S (S.1 1)) ((rnd S).foldl (stD S (S.1 1)) (sH D 2 (D.1 2 + bk S (S.1 1)), bk S (S.1 1)))).2)) := by
  unfold dayD
  simp only
  rw [List.range_eq_range']
theorem Cx.day {b : Nat} {S D : gB} {hh : Nat} {m : gM} (h : Cx b S D hh m) : Cx b (dayS S) D hh (upd m (b + 1) (i3 (S.1 1 + 1))) := h.S1
theorem rnd_day (S : gB) : rnd (dayS S) = rnd S := by
  unfold rnd
  have L : ∀ p j c, p < 4 → lst (dayS S) p c j = lst S p c j := by
    intro p j
    induction j with
    | zero => intro c hp; rfl
    | succ j ih =>
      intro c hp
      have e1 : (dayS S).1 (16 + p) = S.1 (16 + p) := up_n (by omega)
      have e2 : (dayS S).2 = S.2 := rfl
      simp only [lst, e1, e2, ih (c + 1) hp]
  have e0 : (dayS S).1 0 = S.1 0 := rfl
  have F : ∀ q p, p + q ≤ 4 → rndF (dayS S) p q = rndF S p q := by
    intro q
    induction q with
    | zero => intro p hp; rfl
    | succ q ih =>
      intro p hp
      simp only [rndF, e0, L p (S.1 0) 0 (by omega), ih (p + 1) (by omega)]
  exact F 4 0 (by omega)
theorem daysZ_rnd (S D : gB) : ∀ k, rnd (daysZ k (S, D)).1 = rnd S
  | 0 => rfl
  | k + 1 => by
    rw [daysZ_S]
    exact (rnd_day _).trans (daysZ_rnd S D k)
/-- a run of days by the program -/
theorem c_days {b B p : Nat} {S D : gB} {m : gM} (h : Cb b S D m) (hI : Iv B S D) (hB : B + 1000 < 1000000) (hp : p ≤ 1000) : ∃ m', fX0_deliver b (i3 p) m = some (m', i3 ((daysZ p (S, D)).2.1 3 + (daysZ p (S, D)).2.1 4) - i3 (D.1 3 + D.1 4)) ∧ Cb b (daysZ p (S, D)).1 (daysZ p (S, D)).2 m' ∧ Fr b 308 m m' := by
  have hT := (hI.days p).2.1
  have L : ∀ (f k : Nat) (m : gM), k ≤ p → p - k < f → Cb b (daysZ k (S, D)).1 (daysZ k (S, D)).2 m → Vs b S m → ∃ m', fX0_deliver_L8 b (i3 p) f (i3 ((daysZ k (S, D)).2.1 3 + (daysZ k (S, D)).2.1 4 - (D.1 3 + D.1 4))) (i3 k) m = some (m', i3 ((daysZ p (S, D)).2.1 3 + (daysZ p (S, D)).2.1 4) - i3 (D.1 3 + D.1 4)) ∧ Cb b (daysZ p (S, D)).1 (daysZ p (S, D)).2 m' ∧ Fr b 308 m m' := by
    intro f
    induction f with
    | zero => intro k m h1 h2; omega
    | succ f ih =>
      intro k m h1 h2 h hv
      unfold fX0_deliver_L8
      rw [iLe (by omega) (by omega)]
      by_cases hk : p ≤ k
      · have e : k = p := by omega
        subst e
        rw [if_pos hk, ← i3s hT]
        exact ⟨m, rfl, h, Fr.rf⟩
      · rw [if_neg hk]
        obtain ⟨q, qT, -⟩ := hI.days k
        have eZ := daysZ_S k (S, D)
        have eR := daysZ_rnd S D k
        obtain ⟨S1, hS1⟩ : ∃ S1, S1 = (daysZ k (S, D)).1 := ⟨_, rfl⟩
        obtain ⟨D1, hD1⟩ : ∃ D1, D1 = (daysZ k (S, D)).2 := ⟨_, rfl⟩
        rw [← hS1, ← hD1] at q h eZ
        rw [← hS1] at eR
        rw [← hD1] at qT ⊢
        have hv1 : Vs b S1 m := by
          unfold Vs
          rw [eR]
          exact hv
        have hd : S1.1 1 < 1000000 := by have := q.1.2.1; omega
        have hn := q.1.1
        have ha := aldu_le (d := S1.1 1) q.1
        have hb := bk_le (d := S1.1 1) q.1
        have hl := rnd_len q.1
        have h0 : Cx b S1 (sH D1 2 (D1.1 2 + bk S1 (S1.1 1))) (D1.1 2) m := Cx.DH h (by omega) (by omega) (by omega)
        rw [c_all h0 q.1 hd, gClI, c_lf h0 q.1 (by omega), gClI]
        rw [show min (aldu S1 (S1.1 1) + S1.1 12) (S1.1 11) = bk S1 (S1.1 1) from rfl]
        obtain ⟨m1, a1, a2, a3⟩ := c_ho q.1 hd gFU (S1.1 0) 0 (bk S1 (S1.1 1)) _ m (by omega) (by show S1.1 0 < 5000; omega) (by omega) h0 hv1
        obtain ⟨i1, left, j1, j2, j3⟩ := dayD_spec q.1 q.2
        have hm : ∀ c ∈ rnd S1, c < S1.1 0 := fun c hc => (rnd_mem q.1 c).mp hc
        have s0 : Sms (S1.1 0) (sH D1 2 (D1.1 2 + bk S1 (S1.1 1))) := by
          obtain ⟨b1, b2, b3, b4, b5⟩ := q.2.2
          refine ⟨?_, ?_, ?_, ?_, ?_⟩ <;> simp [sH, up] <;> assumption
        obtain ⟨d1, d2, d3, d4, d5⟩ := foldD q.1 (S1.1 1) (rnd S1) hm (sH D1 2 (D1.1 2 + bk S1 (S1.1 1))) (bk S1 (S1.1 1)) 30 s0 (fun c hc => q.2.1 c hc)
        rw [List.drop_zero] at a1 a2
        unfold fX0_handOut
        rw [n0, a1, gClI]
        have eD := dayD_eq S1 D1
        obtain ⟨z, hz⟩ : ∃ z, z = (rnd S1).foldl (stD S1 (S1.1 1)) (sH D1 2 (D1.1 2 + bk S1 (S1.1 1)), bk S1 (S1.1 1)) := ⟨_, rfl⟩
        rw [← hz] at a1 a2 j3 d1 d2 d3 eD ⊢
        obtain ⟨m2, b1, b2, b3⟩ := c_mg q.1 hd gFU (S1.1 0) 0 z.2 z.1 m1 (by omega) (by show S1.1 0 < 5000; omega) (by omega) a2 (hv1.fb q.1 a3) (fun i hi => by have := d2 i hi; omega)
        obtain ⟨g1, g2, g3, g4, g5⟩ := foldG (S1.1 1) (rnd S1) hm z.1 z.2 _ d1 d2
        rw [List.drop_zero] at b1 b2
        unfold fX0_makeGood
        rw [n0, b1, gClI]
        rw [show (z.1, z.2) = z from rfl] at b1 b2 g1 g2 g3 ⊢
        obtain ⟨y, hy⟩ : ∃ y, y = (rnd S1).foldl (stG S1 (S1.1 1)) z := ⟨_, rfl⟩
        rw [← hy] at b1 b2 j3 g1 g2 g3 eD ⊢
        rw [b2.h2, gLtI, i3a, gLtI]
        have c1 := b2.H2 (v := D1.1 2 + bk S1 (S1.1 1))
        have f1 := (a3.tr b3).tr (Fb.up (m := m2) (y := b + 2) (v := i3 (D1.1 2 + bk S1 (S1.1 1))) (by omega) (by omega) (by omega))
        generalize upd m2 (b + 2) _ = m3 at c1 f1 ⊢
        rw [c1.h3, gLtI, i3a, gLtI, i3s (by omega), i3a, gLtI]
        have c2 := c1.D5 (v := y.1.1 5 + y.2)
        have f2 := f1.tr (Fb.up (m := m3) (y := b + 3) (v := i3 (y.1.1 5 + y.2)) (by omega) (by omega) (by omega))
        generalize upd m3 (b + 3) _ = m4 at c2 f2 ⊢
        unfold fX0_payBack
        obtain ⟨m5, p1, p2, p3⟩ := c_pb q.1 gFU (S1.1 0) 0 _ m4 (by omega) (by show S1.1 0 < 5000; omega) c2 (fun i hi => by have := g2 i hi; show y.1.2 i 8 ≤ _; omega)
        rw [n0, p1, gCvI, p2.h1, gLtI, n1, i3a, gLtI, gLtI, i3a]
        rw [← eD] at p2
        have c3 := p2.day
        have f3 := (f2.tr p3).tr (Fb.up (m := m5) (y := b + 1) (v := i3 (S1.1 1 + 1)) (by omega) (by omega) (by omega))
        generalize upd m5 (b + 1) _ = m6 at c3 f3 ⊢
        have e2 : (dayD S1 D1).1 2 = D1.1 2 + bk S1 (S1.1 1) := by
          obtain ⟨-, -, r3⟩ := foldP (S := S1) (S1.1 0) 0 (sH y.1 5 (y.1.1 5 + y.2)) (by omega) (by
            obtain ⟨b1, b2, b3, b4, b5⟩ := g1
            refine ⟨?_, ?_, ?_, ?_, ?_⟩ <;> simp [sH, up] <;> assumption) (fun i hi => absurd hi (by omega))
          rw [eD, r3 2 (by omega) (by omega)]
          have t1 := g5 2 (by omega)
          rw [show (z.1, z.2) = z from rfl, ← hy] at t1
          have t2 := d5 2 (by omega) (by omega) (by omega) (by omega)
          have t3 : (sH y.1 5 (y.1.1 5 + y.2)).1 2 = y.1.1 2 := by simp [sH, up]
          have t4 : (sH D1 2 (D1.1 2 + bk S1 (S1.1 1))).1 2 = D1.1 2 + bk S1 (S1.1 1) := by simp [sH, up]
          rw [t3, t1]
          rw [hz, t2, t4]
        rw [← e2] at c3
        have c4 : Cb b (daysZ (k + 1) (S, D)).1 (daysZ (k + 1) (S, D)).2 m6 := by
          rw [eZ]
          exact c3
        obtain ⟨m7, s1, s2, s3⟩ := ih (k + 1) m6 (by omega) (by omega) c4 (hv.fb hI.1 f3)
        refine ⟨m7, ?_, s2, f3.fr.tr s3⟩
        rw [← s1, eZ]
        congr 2
        show _ = (dayD S1 D1).1 3 + (dayD S1 D1).1 4 - _
        omega
  obtain ⟨m1, e1, e2, e3⟩ := c_plan h hI.1
  unfold fX0_deliver
  rw [e1, gCvI]
  have hn := hI.1.1
  obtain ⟨m2, s1, s2, s3⟩ := L gFU 0 m1 (by omega) (by show p - 0 < 5000; omega) (Cx.frV h e2) e3
  rw [show (daysZ 0 (S, D)).2.1 3 + (daysZ 0 (S, D)).2.1 4 - (D.1 3 + D.1 4) = 0 from Nat.sub_self _] at s1
  rw [n0]
  exact ⟨m2, s1, s2, (e2.sub (by omega) (by omega)).tr s3⟩
