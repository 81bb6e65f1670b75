theorem g7 : gP7 Inv := by
  intro T m a1 a2 a3 hT hi
  obtain ⟨S, D, hb⟩ := hi.B
  have hn := hb.2.2.1.1
  have hc3 : fX5_isWithin a3 0 1 m = some (m, bI (wi a3 0 1)) := by rw [c_in]; rfl
  have hc2 : fX5_isWithin a2 0 2 m = some (m, bI (wi a2 0 2)) := by rw [c_in]; rfl
  have hm3 : fX6_in a3.toInt64 0 1 m = some (m, bI (wi a3 0 1)) := by rw [m_inI]; rfl
  have hm2 : fX6_in a2.toInt64 0 2 m = some (m, bI (wi a2 0 2)) := by rw [m_inI]; rfl
  have no : (hcu S a1 && wi a2 0 2) = false → fX5_away a1 a2 a3 m = some (m, 1, 0) ∧ fX6_away a1 a2 a3 m = some (upd m (5693 + 0) 1, 0) := by
    intro hf
    unfold fX5_away fX6_away
    rw [c_has hb.1 hb.2.2.1, gClI, m_has hb.2.1 hb.2.2.1, gClI, gLtI, gLtI, iB0, iB0, hc2, gClI, hm2, gClI, iB0, iB0]
    cases h1 : hcu S a1 with
    | false => exact ⟨rfl, rfl⟩
    | true =>
      rw [h1] at hf
      have h2 : wi a2 0 2 = false := hf
      rw [h2]
      exact ⟨rfl, rfl⟩
  cases hw : (hcu S a1 && wi a2 0 2) with
  | true =>
    rw [Bool.and_eq_true] at hw
    have kc : fX5_away a1 a2 a3 m = (gDem 1 (bI true) m <| gCl (fX5_isWithin a3 0 1 m) fun m10 x11 => gDem 2 x11 m10 <| gEl 10 a1 fun c16 => gLt (m10 (((128 + 11) + 57 + 24 * c16) + 7)) fun x18 => (if a2 < x18 then (if a3 = 0 then gRd m10 (((128 + 11) + 57 + 24 * c16) + 18) 3 a2 fun x22 => some (m10, 0, x22) else gRd m10 (((128 + 11) + 57 + 24 * c16) + 21) 3 a2 fun x20 => some (m10, 0, x20)) else some (m10, 0, (-1)))) := by
      unfold fX5_away
      rw [c_has hb.1 hb.2.2.1, hw.1, gClI, gLtI, iB0, if_pos rfl, hc2, hw.2, gClI, iB0, if_pos rfl]
      rfl
    have km : ∀ x, (if bI (wi a3 0 1) = 0 then (2 : Int32) else 0) = x → fX6_away a1 a2 a3 m = (gCl (fX6_refused x m) fun m9 x10 => (if x10 = 0 then gCl (fX6_of 5824 258 a1 14 m9) fun m13 x14 => (if x14 ≤ a2 then some (m13, (-1)) else gCl (fX6_of 5824 258 a1 ((15 + (2 * a2)) + a3) m13) fun m17 x18 => some (m17, x18)) else some (m9, 0))) := by
      intro x hx
      unfold fX6_away
      rw [m_has hb.2.1 hb.2.2.1, hw.1, gClI, gLtI, iB0, if_pos rfl, hm2, hw.2, gClI, iB0, if_pos rfl, hm3, gClI, ← hx]
      cases wi a3 0 1 <;> rfl
    cases hw3 : wi a3 0 1 with
    | false =>
      rw [hw3] at hc3
      refine q_no (r := 0) (k := 2) (e := 2) hi ?_ (by omega) rfl ?_
      · rw [kc, gDemT, hc3, gClI, gDemF]
      · rw [km 2 (by rw [hw3]; rfl), r_no (by decide), gClI, if_neg (by decide)]
    | true =>
      rw [hw3] at hc3
      obtain ⟨c, e, h1⟩ := hcu_x hw.1
      obtain ⟨k, e2, h1', h2', h3'⟩ := wi_n (a := 0) (b := 2) hw.2
      obtain ⟨v, e3, h1'', h2'', h3''⟩ := wi_n (a := 0) (b := 1) hw3
      have h14 := (hb.2.2.1.cust h1).2.2.1
      have hb2 := hb.sc (Sc.th (v := 0))
      by_cases hk : k < S.2 c 14
      · refine q_ok (r := i3 (S.2 c (15 + 2 * k + v))) (m1 := m) (m2 := upd m (5693 + 0) 0) hi ?_ ?_ upd_s Sc.th
        · rw [kc, gDemT, hc3, gClI, gDemT, e, gEl10 (by omega), (hb.1.c h1).f7, gLtI, e2, iLt (by omega) (by omega), if_pos hk, (hb.1.c h1).rF (by omega) hk, (hb.1.c h1).rL (by omega) hk, e3, n0, iEq (by omega) (by omega)]
          rcases (show v = 0 ∨ v = 1 by omega) with r | r <;> subst r <;> rfl
        · rw [km 0 (by rw [hw3]; rfl), r_ok, gClI, if_pos rfl, e, n14, m_ofS hb2.2.1 (by omega) (by omega) (by omega), gClI, e2, iLe (by omega) (by omega), if_neg (by omega), e3, n15, n2, i3m, i3a, i3a, m_ofS hb2.2.1 (by omega) (by omega) (by omega), gClI]
      · refine q_ok (r := -1) (m1 := m) (m2 := upd m (5693 + 0) 0) hi ?_ ?_ upd_s Sc.th
        · rw [kc, gDemT, hc3, gClI, gDemT, e, gEl10 (by omega), (hb.1.c h1).f7, gLtI, e2, iLt (by omega) (by omega), if_neg hk]
        · rw [km 0 (by rw [hw3]; rfl), r_ok, gClI, if_pos rfl, e, n14, m_ofS hb2.2.1 (by omega) (by omega) (by omega), gClI, e2, iLe (by omega) (by omega), if_pos (by omega)]
  | false => exact q_no (r := 0) (k := 1) (e := 1) hi (no hw).1 (by omega) rfl (no hw).2
theorem c_week {q : Nat} {s t : Nat → Nat} {m : gM} (h : Cc q s t m) : fX1_loavesAWeek q m = some (m, i3 (sm (fun w => s (1 + w)) 7)) := by
  have L : ∀ (f k : Nat), k ≤ 7 → 7 - k < f → fX1_loavesAWeek_L4 q f (i3 (sm (fun w => s (1 + w)) k)) (i3 k) m = some (m, i3 (sm (fun w => s (1 + w)) 7)) := by
    intro f
    induction f with
    | zero => intro k h1 h2; omega
    | succ f ih =>
      intro k h1 h2
      unfold fX1_loavesAWeek_L4
      rw [n7, iLe (by omega) (by omega)]
      by_cases hk : 7 ≤ k
      · have e : k = 7 := by omega
        rw [if_pos hk, e]
      · rw [if_neg hk, h.rW (by omega)]
        simp only [gLtI, i3a, n1]
        exact ih (k + 1) (by omega) (by omega)
  unfold fX1_loavesAWeek
  exact L gFU 0 (by omega) (by show _ < 5000; omega)
/-- what a customer tells: 0 .. 8 -/
def cuN (s d : Nat → Nat) (p : Nat) : Nat := if p = 0 then s 0 else if p = 1 then sm (fun w => s (1 + w)) 7 else if p = 8 then s 14 else d (6 + p)
theorem c_num {q p : Nat} {s t : Nat → Nat} {m : gM} (h : Cc q s t m) (hp : p ≤ 8) : fX1_numberOf q (i3 p) m = some (m, i3 (cuN s t p)) := by
  unfold fX1_numberOf
  rw [c_week h, gClI, h.f0, h.f1, h.f2, h.f3, h.f4, h.f5, h.f6, h.f7]
  rcases (show p = 0 ∨ p = 1 ∨ p = 2 ∨ p = 3 ∨ p = 4 ∨ p = 5 ∨ p = 6 ∨ p = 7 ∨ p = 8 by omega) with r | r | r | r | r | r | r | r | r <;> subst r <;> rfl
theorem c_sum {b B hh p : Nat} {S D : gB} {m : gM} (h : Cx b S D hh m) (hI : Is B S) (hp : p ≤ 8) : fX0_sumOf b (i3 p) m = some (m, i3 (sm (fun c => cuN (S.2 c) (D.2 c) p) (S.1 0))) := by
  have hn := hI.1
  have L : ∀ (f k : Nat), k ≤ S.1 0 → S.1 0 - k < f → fX0_sumOf_L4 b (i3 p) f (i3 (sm (fun c => cuN (S.2 c) (D.2 c) p) k)) (i3 k) m = some (m, i3 (sm (fun c => cuN (S.2 c) (D.2 c) p) (S.1 0))) := by
    intro f
    induction f with
    | zero => intro k h1 h2; omega
    | succ f ih =>
      intro k h1 h2
      unfold fX0_sumOf_L4
      rw [h.h0, gLtI, iLe (by omega) (by omega)]
      by_cases hk : S.1 0 ≤ k
      · have e : k = S.1 0 := by omega
        rw [if_pos hk, e]
      · rw [if_neg hk, gEl10 (by omega), c_num (h.c (by omega)) hp, gClI]
        simp only [gLtI, i3a, n1]
        exact ih (k + 1) (by omega) (by omega)
  unfold fX0_sumOf
  exact L gFU 0 (by omega) (by show _ < 5000; omega)
theorem c_sums {b B hh : Nat} {S D : gB} {m : gM} (h : Cx b S D hh m) (hI : Iv B S D) : fX0_sumOf b 2 m = some (m, i3 (sm (fun c => D.2 c 8) (S.1 0))) ∧ fX0_sumOf b 3 m = some (m, i3 (D.1 3)) ∧ fX0_sumOf b 4 m = some (m, i3 (D.1 4)) ∧ fX0_sumOf b 5 m = some (m, i3 (D.1 6)) ∧ fX0_sumOf b 6 m = some (m, i3 (D.1 9)) ∧ fX0_sumOf b 7 m = some (m, i3 (D.1 10)) := by
  obtain ⟨-, k1, k2, k3, k4, k5⟩ := hI.2
  rw [k1, k2, k3, k4, k5]
  exact ⟨c_sum h hI.1 (p := 2) (by omega), c_sum h hI.1 (p := 3) (by omega), c_sum h hI.1 (p := 4) (by omega), c_sum h hI.1 (p := 5) (by omega), c_sum h hI.1 (p := 6) (by omega), c_sum h hI.1 (p := 7) (by omega)⟩
/-- what a book tells: 0 .. 12 -/
def abN (S D : gB) (p : Nat) : Nat := if p < 2 then S.1 p else if p < 6 then D.1 p else if p = 6 then sm (fun c => D.2 c 8) (S.1 0) else if p < 12 then D.1 (p - 1) else aldu S (S.1 1)
theorem c_about {b B p : Nat} {S D : gB} {m : gM} (h : Cb b S D m) (hI : Iv B S D) (hB : B < 1000000) (hp : p ≤ 12) : fX0_numberOf b (i3 p) m = some (m, i3 (abN S D p)) := by
  have hd := hI.1.2.1
  obtain ⟨s2, s3, s4, s5, s6, s7⟩ := c_sums h hI
  unfold fX0_numberOf
  rw [s2, s3, s4, s5, s6, s7, c_all h hI.1 (by omega), gClI, gClI, gClI, gClI, gClI, gClI, gClI, Cx.h0 h, Cx.h1 h, Cx.h2 h, Cx.h3 h, Cx.h4 h, Cx.h5 h]
  rcases (show p = 0 ∨ p = 1 ∨ p = 2 ∨ p = 3 ∨ p = 4 ∨ p = 5 ∨ p = 6 ∨ p = 7 ∨ p = 8 ∨ p = 9 ∨ p = 10 ∨ p = 11 ∨ p = 12 by omega) with r | r | r | r | r | r | r | r | r | r | r | r | r <;> subst r <;> rfl
theorem g4 : gP4 Inv := by
  intro T m a1 hT hi
  obtain ⟨S, D, hb⟩ := hi.B
  have hc : fX5_isWithin a1 0 12 m = some (m, bI (wi a1 0 12)) := by rw [c_in]; rfl
  have hm : fX6_in a1.toInt64 0 12 m = some (m, bI (wi a1 0 12)) := by rw [m_inI]; rfl
  cases hw : wi a1 0 12 with
  | true =>
    obtain ⟨p, e, h1, h2, h3⟩ := wi_n (a := 0) (b := 12) hw
    rw [hw] at hc hm
    have hd := hb.2.2.1.2.1
    have hb2 := hb.sc (Sc.th (v := 0))
    refine q_ok (r := i3 (abN S D p)) (m1 := m) (m2 := upd m (5693 + 0) 0) hi ?_ ?_ upd_s Sc.th
    · unfold fX5_about
      rw [hc, gClI, gDemT, e, c_about hb.1 hb.2.2 (by omega) h2, gClI]
    · unfold fX6_about
      rw [hm, gClI, m_reqT, if_pos rfl, m_cred hb2.2.1 hb2.2.2.1, gClI]
      generalize hm2 : upd m (5693 + 0) 0 = m2 at hb2 ⊢
      have r1 : ∀ (k : Int32 → Option (gM × Int32)), gRd m2 5824 258 1 k = k (i3 (S.1 1)) := fun k => m_rS hb2.2.1 (i := 1) (by omega) (by omega)
      rw [r1, m_aldu hb2.2.1 hb2.2.2.1 (by omega), gClI, e]
      rcases (show p < 2 ∨ (2 ≤ p ∧ p < 6) ∨ p = 6 ∨ (7 ≤ p ∧ p < 12) ∨ p = 12 by omega) with r | r | r | r | r
      · rw [m_rS hb2.2.1 (i := p) (by omega) (by omega)]
        rcases (show p = 0 ∨ p = 1 by omega) with r | r <;> subst r <;> rfl
      · rw [m_rD hb2.2.1 (i := p) (by omega) (by omega)]
        rcases (show p = 2 ∨ p = 3 ∨ p = 4 ∨ p = 5 by omega) with r | r | r | r <;> subst r <;> rfl
      · subst r
        rfl
      · have e1 : (i3 p) - 1 = i3 (p - 1) := by rw [n1, i3s (by omega)]
        rw [e1, m_rD hb2.2.1 (i := p - 1) (by omega) (by omega)]
        rcases (show p = 7 ∨ p = 8 ∨ p = 9 ∨ p = 10 ∨ p = 11 by omega) with r | r | r | r | r <;> subst r <;> rfl
      · subst r
        rfl
  | false =>
    rw [hw] at hc hm
    refine q_no (r := 0) (k := 1) (e := 2) hi ?_ (by omega) rfl ?_
    · unfold fX5_about
      rw [hc, gClI, gDemF]
    · unfold fX6_about
      rw [hm, gClI, m_reqF, if_neg (by decide)]
