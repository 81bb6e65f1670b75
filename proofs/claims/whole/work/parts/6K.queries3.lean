theorem m_wsum {v1 v2 : Int32} {m : gM} {S D : gB} {c : Nat} (h : Mr 5824 S D m) (hc : c < 10) (e : v1 = i3 c) : ∀ (f k : Nat), k ≤ 7 → 7 - k < f → fX6_customerOf_L46 v1 v2 f (i3 (sm (fun w => S.2 c (1 + w)) k)) (i3 k) m = (if v2 = 0 then gCl (fX6_of 5824 258 v1 0 m) fun m14 x15 => some (m14, x15) else (if v2 = 1 then some (m, i3 (sm (fun w => S.2 c (1 + w)) 7)) else (if v2 = 9 then gRd m 5824 258 1 fun x21 => gCl (fX6_dueOn 5824 258 v1 x21 m) fun m22 x23 => some (m22, x23) else (if v2 = 10 then gCl (fX6_nextDue 5824 258 v1 m) fun m27 x28 => some (m27, x28) else gCl (fX6_of 5824 258 v1 (v2 + 6) m) fun m31 x32 => some (m31, x32))))) := by
  intro f
  induction f with
  | zero => intro k h1 h2; omega
  | succ f ih =>
    intro k h1 h2
    unfold fX6_customerOf_L46
    rw [n7, iLe (by omega) (by omega)]
    by_cases q : 7 ≤ k
    · have e : k = 7 := by omega
      rw [if_pos q, e]
    · rw [if_neg q, n1, i3a, e, m_ofS h hc (by omega) (by omega), gClI]
      simp only [gLtI, i3a]
      have := ih (k + 1) (by omega) (by omega)
      rw [e] at this
      exact this
theorem nxt {b t B hh c : Nat} {S D : gB} {m m2 : gM} (h : Cx b S D hh m) (h2 : Mr 5824 S D m2) (hI : Is B S) (hc : c < S.1 0) (ht : S.1 1 < 100000) (e : t = S.1 1) : ∀ (f d : Nat), d ≤ t + 201 → t + 201 - d < f → ∃ r, fX1_nextDueDay_L2 (b + 11 + 57 + 24 * c) (i3 t) f (i3 d) m = some (m, r) ∧ fX6_nextDue_L4 5824 258 (i3 c) f (i3 d) m2 = some (m2, r) := by
  intro f
  induction f with
  | zero => intro d h1 h2; omega
  | succ f ih =>
    intro d h1 h3
    unfold fX1_nextDueDay_L2 fX6_nextDue_L4
    have hdu := du_le (d := d) hI hc
    have r1 : ∀ (k : Int32 → Option (gM × Int32)), gRd m2 5824 258 1 k = k (i3 (S.1 1)) := fun k => m_rS h2 (i := 1) (by omega) (by omega)
    rw [r1, n200, i3a, i3a, e, iLt (by omega) (by omega), iLt (by omega) (by omega)]
    by_cases q : S.1 1 + 200 < d
    · rw [if_pos q, if_pos q]
      exact ⟨-1, rfl, rfl⟩
    · rw [if_neg q, if_neg q, c_du (h.c hc) (hI.cust hc) (by omega), gClI, m_du h2 hI hc (by omega), gClI, show duS (S.2 c) d = du S c d from rfl, n0, iLe (by omega) (by omega), iLe (by omega) (by omega)]
      by_cases q2 : du S c d ≤ 0
      · rw [if_pos q2, if_pos q2, gLtI, gLtI, n1, i3a, ← e]
        exact ih (d + 1) (by omega) (by omega)
      · rw [if_neg q2, if_neg q2]
        exact ⟨_, rfl, rfl⟩
theorem g5 : gP5 Inv := by
  intro T m a1 a2 hT hi
  obtain ⟨S, D, hb⟩ := hi.B
  have hn := hb.2.2.1.1
  have hd := hb.2.2.1.2.1
  have hc2 : fX5_isWithin a2 0 10 m = some (m, bI (wi a2 0 10)) := by rw [c_in]; rfl
  have hm2 : fX6_in a2.toInt64 0 10 m = some (m, bI (wi a2 0 10)) := by rw [m_inI]; rfl
  cases hw : hcu S a1 with
  | false =>
    refine q_no (r := 0) (k := 1) (e := 1) hi ?_ (by omega) rfl ?_
    · unfold fX5_customerOf
      rw [c_has hb.1 hb.2.2.1, hw, gClI, gDemF]
    · unfold fX6_customerOf
      rw [m_has hb.2.1 hb.2.2.1, hw, gClI, gLtI]
      rfl
  | true =>
    obtain ⟨c, e, h1⟩ := hcu_x hw
    cases hw2 : wi a2 0 10 with
    | false =>
      rw [hw2] at hc2 hm2
      refine q_no (r := 0) (k := 2) (e := 2) hi ?_ (by omega) rfl ?_
      · unfold fX5_customerOf
        rw [c_has hb.1 hb.2.2.1, hw, gClI, gDemT, hc2, gClI, gDemF]
      · unfold fX6_customerOf
        rw [m_has hb.2.1 hb.2.2.1, hw, gClI, gLtI, iB0, if_pos rfl, hm2, gClI]
        rfl
    | true =>
      rw [hw2] at hc2 hm2
      obtain ⟨p, e2, k1, k2, k3⟩ := wi_n (a := 0) (b := 10) hw2
      have hb2 := hb.sc (Sc.th (v := 0))
      have kc : fX5_customerOf a1 a2 m = (if a2 = 9 then gEl 10 a1 fun c13 => gLt (m (128 + 1)) fun x16 => gCl (fX1_dueOn ((128 + 11) + 57 + 24 * c13) x16 m) fun m17 x18 => some (m17, 0, x18) else (if a2 = 10 then gEl 10 a1 fun c23 => gLt (m (128 + 1)) fun x26 => gCl (fX1_nextDueDay ((128 + 11) + 57 + 24 * c23) x26 m) fun m27 x28 => some (m27, 0, x28) else gEl 10 a1 fun c32 => gCl (fX1_numberOf ((128 + 11) + 57 + 24 * c32) a2 m) fun m34 x35 => some (m34, 0, x35))) := by
        unfold fX5_customerOf
        rw [c_has hb.1 hb.2.2.1, hw, gClI, gDemT, hc2, gClI, gDemT]
      have km : fX6_customerOf a1 a2 m = fX6_customerOf_L46 a1 a2 gFU 0 0 (upd m (5693 + 0) 0) := by
        unfold fX6_customerOf
        rw [m_has hb.2.1 hb.2.2.1, hw, gClI, gLtI, iB0, if_pos rfl, hm2, gClI, iB0, if_pos rfl]
        dsimp only
        rw [r_ok, gClI, if_pos rfl]
      have kw := m_wsum (v2 := a2) hb2.2.1 (by omega) e gFU 0 (by omega) (by show 7 - 0 < 5000; omega)
      rw [show i3 (sm (fun w => S.2 c (1 + w)) 0) = 0 from rfl, show i3 0 = 0 from rfl] at kw
      rw [kw] at km
      have r1 : ∀ (k : Int32 → Option (gM × Int32)), gRd (upd m (5693 + 0) 0) 5824 258 1 k = k (i3 (S.1 1)) := fun k => m_rS hb2.2.1 (i := 1) (by omega) (by omega)
      rw [e, gEl10 (by omega), gEl10 (by omega), gEl10 (by omega), Cx.h1 hb.1, gLtI, gLtI, c_du (Cx.c hb.1 h1) (hb.2.2.1.cust h1) (by omega), gClI] at kc
      rw [r1, e, m_du hb2.2.1 hb2.2.2.1 h1 (by omega), gClI] at km
      rw [← e] at kc km
      by_cases q10 : p = 10
      · subst q10
        obtain ⟨r, x1, x2⟩ := nxt hb.1 hb2.2.1 hb.2.2.1 h1 (by omega) rfl gFU (S.1 1) (by omega) (by show S.1 1 + 201 - S.1 1 < 5000; omega)
        refine q_ok (r := r) (m1 := m) (m2 := upd m (5693 + 0) 0) hi ?_ ?_ upd_s Sc.th
        · rw [kc, e2, if_neg (by decide), if_pos (by decide)]
          unfold fX1_nextDueDay
          rw [x1, gClI]
        · rw [km, e2, if_neg (by decide), if_neg (by decide), if_neg (by decide), if_pos (by decide)]
          unfold fX6_nextDue
          rw [r1, e, x2, gClI]
      · by_cases q9 : p = 9
        · subst q9
          refine q_ok (r := i3 (du S c (S.1 1))) (m1 := m) (m2 := upd m (5693 + 0) 0) hi ?_ ?_ upd_s Sc.th
          · rw [kc, e2, if_pos (by decide)]
            rfl
          · rw [km, e2, if_neg (by decide), if_neg (by decide), if_pos (by decide)]
        · refine q_ok (r := i3 (cuN (S.2 c) (D.2 c) p)) (m1 := m) (m2 := upd m (5693 + 0) 0) hi ?_ ?_ upd_s Sc.th
          · rw [kc, e2, n9, n10, iEq (by omega) (by omega), iEq (by omega) (by omega), if_neg q9, if_neg q10, c_num (Cx.c hb.1 h1) (by omega), gClI]
          · have hb3 : InB (2400 + 60 * T) S D (upd m (5693 + 0) (i3 0)) := hb2
            rw [km, e2, e, n6, i3a, n0, n1, n9, n10, iEq (by omega) (by omega), iEq (by omega) (by omega), iEq (by omega) (by omega), iEq (by omega) (by omega), if_neg q9, if_neg q10]
            by_cases q0 : p = 0
            · subst q0
              rw [if_pos rfl, m_ofS hb3.2.1 (by omega) (by omega) (by omega), gClI]
              rfl
            · rw [if_neg q0]
              by_cases q1 : p = 1
              · subst q1
                rw [if_pos rfl]
                rfl
              · rw [if_neg q1]
                by_cases q8 : p = 8
                · subst q8
                  rw [m_ofS hb3.2.1 (by omega) (by omega) (by omega), gClI]
                  rfl
                · rw [m_ofD hb3.2.1 (by omega) (by omega) (by omega), gClI]
                  unfold cuN
                  rw [if_neg q0, if_neg q1, if_neg q8, Nat.add_comm p 6]
theorem whyL {b t B hh c : Nat} {S D : gB} {m m2 : gM} (h : Cx b S D hh m) (h2 : Mr 5824 S D m2) (hI : Is B S) (hv : Vs b S m) (hc : c < S.1 0) (ht : S.1 1 < 100000) (e : t = S.1 1) : ∀ (f j k van : Nat), k + j = S.1 0 → j < f → c ∈ (rnd S).drop k → van < 1000 → ∃ z, fX0_leftBefore_L15 b (i3 c) f (i3 van) (i3 k) m = some (m, i3 z) ∧ z < 1000 ∧ fX6_reason_L51 5824 258 (i3 c) (i3 t) f (i3 van) (i3 k) m2 = some (m2, if z = 0 then 4 else if du S c t ≤ z then 0 else 5) := by
  have hn := hI.1
  have hl := rnd_len hI
  have hdc := du_le (d := t) hI hc
  intro f
  induction f with
  | zero => intro j k van h1 h2; omega
  | succ f ih =>
    intro j k van h1 h3 hm h4
    cases j with
    | zero =>
      rw [List.drop_eq_nil_of_le (by omega)] at hm
      cases hm
    | succ j =>
      obtain ⟨x, hx, e0, e1, e2⟩ := m_rnd h2 hI (k := k) (by omega)
      have hdx := du_le (d := t) hI hx
      unfold fX0_leftBefore_L15 fX6_reason_L51
      rw [h.h0, gLtI, iLe (by omega) (by omega), if_neg (by omega), gRdI (by omega) (by omega), hv k x e2, iEq (by omega) (by omega), e0, gClI, iEq (by omega) (by omega)]
      by_cases q : x = c
      · subst q
        rw [if_pos rfl, if_pos rfl]
        refine ⟨van, rfl, h4, ?_⟩
        rw [n0, iEq (by omega) (by omega)]
        by_cases q2 : van = 0
        · rw [if_pos q2, if_pos q2]
        · rw [if_neg q2, if_neg q2, m_du h2 hI hx (by omega), gClI, iLe (by omega) (by omega)]
          by_cases q3 : du S x t ≤ van
          · rw [if_pos q3, if_pos q3]
          · rw [if_neg q3, if_neg q3]
      · have hm2 : c ∈ (rnd S).drop (k + 1) := by
          rw [e1, List.mem_cons] at hm
          rcases hm with r | r
          · exact absurd r.symm q
          · exact r
        rw [if_neg q, if_neg q]
        cases ho : op S x t with
        | true =>
          obtain ⟨z, z1, z2, z3⟩ := ih j (k + 1) (van - min van (du S x t)) (by omega) (by omega) hm2 (by omega)
          refine ⟨z, ?_, z2, ?_⟩
          · rw [gRdI (by omega) (by omega), hv k x e2, gEl10 (by omega), c_reach h hI hx (by omega), gClI, ← e, ho, gLtI, iB0, if_pos rfl, h.h1, ← e, gLtI, c_du (h.c hx) (hI.cust hx) (by omega), gClI, show duS (S.2 x) t = du S x t from rfl, jminI (by omega) (by omega), gLtI, i3s (Nat.min_le_left _ _), gLtI]
            dsimp only
            rw [gLtI, n1, i3a]
            exact z1
          · have e5 : (if i3 van ≤ i3 (du S x t) then i3 van else i3 (du S x t)) = i3 (min van (du S x t)) := by
              rw [iLe (by omega) (by omega)]
              by_cases r : van ≤ du S x t
              · rw [if_pos r, Nat.min_eq_left r]
              · rw [if_neg r, Nat.min_eq_right (by omega)]
            rw [e0, gClI, m_op h2 hI hx (by omega), gClI, gLtI, ho, iB0, if_pos rfl, m_du h2 hI hx (by omega), gClI]
            dsimp only
            rw [e5, gLtI, i3s (Nat.min_le_left _ _), gLtI, gLtI, n1, i3a]
            exact z3
        | false =>
          obtain ⟨z, z1, z2, z3⟩ := ih j (k + 1) van (by omega) (by omega) hm2 h4
          refine ⟨z, ?_, z2, ?_⟩
          · rw [gRdI (by omega) (by omega), hv k x e2, gEl10 (by omega), c_reach h hI hx (by omega), gClI, ← e, ho, gLtI, iB0, if_neg (by decide)]
            dsimp only
            rw [gLtI, n1, i3a]
            exact z1
          · have e5 : (if i3 van ≤ (0 : Int32) then i3 van else (0 : Int32)) = i3 0 := by
              rw [n0, iLe (by omega) (by omega)]
              by_cases r : van ≤ 0
              · rw [if_pos r, show van = 0 from by omega]
              · rw [if_neg r]
            rw [e0, gClI, m_op h2 hI hx (by omega), gClI, gLtI, ho, iB0, if_neg (by decide)]
            dsimp only
            rw [e5, gLtI, i3s (Nat.zero_le _), gLtI, gLtI, n1, i3a]
            exact z3
theorem g21 : gP21 Inv := by
  intro T m a1 hT hi
  obtain ⟨S, D, hb⟩ := hi.B
  have hn := hb.2.2.1.1
  have hd := hb.2.2.1.2.1
  cases hw : hcu S a1 with
  | false =>
    refine q_no (r := 0) (k := 1) (e := 1) hi ?_ (by omega) rfl ?_
    · unfold fX5_why
      rw [c_has hb.1 hb.2.2.1, hw, gClI, gDemF]
    · unfold fX6_why
      rw [m_has hb.2.1 hb.2.2.1, hw, gClI, m_reqF, if_neg (by decide)]
  | true =>
    obtain ⟨c, e, hc⟩ := hcu_x hw
    have kc : fX5_why a1 m = gCl (fX0_reasonFor 128 (i3 c) m) fun m7 x8 => some (m7, 0, x8) := by
      unfold fX5_why
      rw [c_has hb.1 hb.2.2.1, hw, gClI, gDemT, e]
    have km : ∀ m, InB (2400 + 60 * T) S D m → fX6_why a1 m = gCl (fX6_reason 5824 258 (i3 c) (upd m (5693 + 0) 0)) fun m12 x13 => some (m12, x13) := by
      intro m hb
      unfold fX6_why
      rw [m_has hb.2.1 hb.2.2.1, hw, gClI, m_reqT, if_pos rfl, e]
    have hs0 := (hb.2.2.1.cust hc).1
    have hw9 := (hb.2.2.1.cust hc).2.1 (S.1 1 % 7) (by omega)
    have hdc := du_le (d := S.1 1) hb.2.2.1 hc
    obtain ⟨m', e1, e2, e3⟩ := c_plan hb.1 hb.2.2.1
    have sc1 : Sc m m' := Sc.fr e2 (fun x h1 h2 => by unfold scr; omega)
    have hb' := hb.sc sc1
    have rr : ∀ M : gM, InB (2400 + 60 * T) S D M → fX6_reason 5824 258 (i3 c) M = (if S.2 c (1 + S.1 1 % 7) = 0 then some (M, 1) else if aw S c (S.1 1) = true then some (M, 2) else if op S c (S.1 1) = false then some (M, 3) else fX6_reason_L51 5824 258 (i3 c) (i3 (S.1 1)) gFU (i3 (bk S (S.1 1))) 0 M) := by
      intro M hM
      unfold fX6_reason
      have r1 : ∀ (k : Int32 → Option (gM × Int32)), gRd M 5824 258 1 k = k (i3 (S.1 1)) := fun k => m_rS hM.2.1 (i := 1) (by omega) (by omega)
      rw [r1, n7, i3r (by omega) (by omega), n1, i3a, m_ofS hM.2.1 (by omega) (by omega) (by omega), gClI, n0, iEq (by omega) (by omega)]
      by_cases q : S.2 c (1 + S.1 1 % 7) = 0
      · rw [if_pos q, if_pos q]
      · rw [if_neg q, if_neg q, m_aw hM.2.1 hM.2.2.1 hc (by omega), gClI, iB0']
        cases aw S c (S.1 1) with
        | true => rfl
        | false =>
          rw [if_neg (by decide), if_neg (by decide), m_op hM.2.1 hM.2.2.1 hc (by omega), gClI, iB0']
          cases op S c (S.1 1) with
          | false => rfl
          | true =>
            rw [if_pos rfl, if_neg (by decide), m_bk hM.2.1 hM.2.2.1 (by omega), gClI]
    have cc : fX0_reasonFor 128 (i3 c) m = (if S.2 c (1 + S.1 1 % 7) = 0 then some (m, 1) else if aw S c (S.1 1) = true then some (m, 2) else if op S c (S.1 1) = false then some (m, 3) else gCl (fX0_leftBefore_L15 128 (i3 c) gFU (i3 (bk S (S.1 1))) 0 m') fun m17 x18 => (if x18 = 0 then some (m17, 4) else gLt (m17 (128 + 1)) fun x20 => gCl (fX1_dueOn ((128 + 11) + 57 + 24 * c) x20 m17) fun m21 x22 => (if x22 ≤ x18 then some (m21, 0) else some (m21, 5)))) := by
      unfold fX0_reasonFor
      rw [gEl10 (by omega), Cx.h1 hb.1, gLtI, c_wd (by omega), gClI, (Cx.c hb.1 hc).rW (by omega), n0, iEq (by omega) (by omega)]
      by_cases q : S.2 c (1 + S.1 1 % 7) = 0
      · rw [if_pos q, if_pos q]
      · rw [if_neg q, if_neg q, Cx.h1 hb.1, gLtI]
        unfold fX1_isAwayOn
        rw [(Cx.c hb.1 hc).f7, gLtI, c_aw (Cx.c hb.1 hc) (hb.2.2.1.cust hc) (by omega) (Nat.le_refl _), gClI, gRzB, gClI, iB0', show awK (S.2 c) (S.1 1) (S.2 c 14) = aw S c (S.1 1) from rfl]
        cases aw S c (S.1 1) with
        | true => rfl
        | false =>
          rw [if_neg (by decide), if_neg (by decide), c_reach hb.1 hb.2.2.1 hc (by omega), gClI, iB0']
          cases op S c (S.1 1) with
          | false => rfl
          | true =>
            rw [if_pos rfl, if_neg (by decide)]
            unfold fX0_leftBefore
            have ha := aldu_le (d := S.1 1) hb.2.2.1
            rw [e1, gCvI, c_all hb'.1 hb.2.2.1 (by omega), gClI, c_lf hb'.1 hb.2.2.1 (by omega), gClI]
            rfl
    by_cases q1 : S.2 c (1 + S.1 1 % 7) = 0
    · refine q_ok (r := 1) (m1 := m) (m2 := upd m (5693 + 0) 0) hi ?_ ?_ upd_s Sc.th
      · rw [kc, cc, if_pos q1, gClI]
      · rw [km m hb, rr _ (hb.sc Sc.th), if_pos q1, gClI]
    · by_cases q2 : aw S c (S.1 1) = true
      · refine q_ok (r := 2) (m1 := m) (m2 := upd m (5693 + 0) 0) hi ?_ ?_ upd_s Sc.th
        · rw [kc, cc, if_neg q1, if_pos q2, gClI]
        · rw [km m hb, rr _ (hb.sc Sc.th), if_neg q1, if_pos q2, gClI]
      · by_cases q3 : op S c (S.1 1) = false
        · refine q_ok (r := 3) (m1 := m) (m2 := upd m (5693 + 0) 0) hi ?_ ?_ upd_s Sc.th
          · rw [kc, cc, if_neg q1, if_neg q2, if_pos q3, gClI]
          · rw [km m hb, rr _ (hb.sc Sc.th), if_neg q1, if_neg q2, if_pos q3, gClI]
        · have hb2 := hb'.sc (Sc.th (v := 0))
          have hbk := bk_le (d := S.1 1) hb.2.2.1
          obtain ⟨z, z1, z2, z3⟩ := whyL hb'.1 hb2.2.1 hb.2.2.1 e3 hc (by omega) rfl gFU (S.1 0) 0 (bk S (S.1 1)) (by omega) (by show S.1 0 < 5000; omega) (by rw [List.drop_zero]; exact (rnd_mem hb.2.2.1 c).mpr hc) (by omega)
          rw [← n0] at z1 z3
          refine q_ok (r := if z = 0 then 4 else if du S c (S.1 1) ≤ z then 0 else 5) (m1 := m') (m2 := upd m' (5693 + 0) 0) hi ?_ ?_ upd_s (sc1.tr Sc.th)
          · rw [kc, cc, if_neg q1, if_neg q2, if_neg q3, z1, gClI, n0, iEq (by omega) (by omega), Cx.h1 hb'.1, gLtI, c_du (Cx.c hb'.1 hc) (hb.2.2.1.cust hc) (by omega), gClI, show duS (S.2 c) (S.1 1) = du S c (S.1 1) from rfl, iLe (by omega) (by omega)]
            by_cases r1 : z = 0
            · rw [if_pos r1, if_pos r1, gClI]
            · rw [if_neg r1, if_neg r1]
              by_cases r2 : du S c (S.1 1) ≤ z
              · rw [if_pos r2, if_pos r2, gClI]
              · rw [if_neg r2, if_neg r2, gClI]
          · rw [km m' hb', rr _ hb2, if_neg q1, if_neg q2, if_neg q3, z3, gClI]
