/-! looks: what they answer -/
def qAbout (t : gT) (x : Int32) : Int32 := if wi x 0 12 = true then i3 (abN t.1.1 t.1.2 (nV x)) else -9999002
/-- the next day from d on, among j, on which anything is due -/
def nxF (S : gB) (c : Nat) : Nat → Nat → Int32
  | 0, _ => -1
  | j + 1, d => if du S c d = 0 then nxF S c j (d + 1) else i3 d
def tolV (S D : gB) (c p : Nat) : Int32 := if p = 9 then i3 (du S c (S.1 1)) else if p = 10 then nxF S c 201 (S.1 1) else i3 (cuN (S.2 c) (D.2 c) p)
def qTold (t : gT) (x y : Int32) : Int32 := if hcu t.1.1 x = true then (if wi y 0 10 = true then tolV t.1.1 t.1.2 (nV x) (nV y) else -9999002) else -9999001
def qOrd (t : gT) (x y : Int32) : Int32 := if (hcu t.1.1 x && wi y 0 6) = true then i3 (t.1.1.2 (nV x) (1 + nV y)) else -9999001
def qAway (t : gT) (x y z : Int32) : Int32 := if (hcu t.1.1 x && wi y 0 2) = true then (if wi z 0 1 = true then (if nV y < t.1.1.2 (nV x) 14 then i3 (t.1.1.2 (nV x) (15 + 2 * nV y + nV z)) else -1) else -9999002) else -9999001
def qClosed (t : gT) (x y : Int32) : Int32 := if (wi x 0 3 && wi y 0 6) = true then i3 (t.1.1.1 (20 + 7 * nV x + nV y)) else -9999001
def qRound (t : gT) (x : Int32) : Int32 := if wi x 0 3 = true then i3 (t.1.1.1 (16 + nV x)) else -9999001
def qSet (t : gT) (x : Int32) : Int32 := if wi x 0 4 = true then i3 (t.1.1.1 (11 + nV x)) else -9999002
def qDue (t : gT) (x f n w : Int32) : Int32 := if hcu t.1.1 x = true then (if (wi f 0 999 && (wi n 0 500 && wi w 0 1)) = true then i3 (sI (duS (t.1.1.2 (nV x))) (nV f) (nV n)) else -9999002) else -9999001
def qWhy (t : gT) (x : Int32) : Int32 := if hcu t.1.1 x = true then whyV t.1.1 (nV x) else -9999001
def qCredit (t : gT) (x n : Int32) : Int32 := if hcu t.1.1 x = true then (if wi n 0 200 = true then i3 ((daysZ (nV n) t.1).2.2 (nV x) 8) else -9999002) else -9999001
def qClear (t : gT) (x : Int32) : Int32 := if hcu t.1.1 x = true then clr t.1 (nV x) 201 0 else -9999001
def qOven (t : gT) (n : Int32) : Int32 := if wi n 1 60 = true then i3 (lov t.1.1 (nV n) (t.1.1.1 1) 0) else -9999002
def ordL : List Nat := ((List.range' 0 256).filter okC).map decO
def qBest (t : gT) (n : Int32) : Int32 := if wi n 1 30 = true then (enc (bst t.1.1 t.1.2 (nV n) ordL none)).1 else -9999002
def simP (z : gB × gB) (seed : Int64) (p : Nat) (r : Int32) : Prop := ∀ a m, Cb (a + 128) z.1 z.2 m → ∃ m', gCv (fX0_copyFrom (a + 436) (a + 128) m) (fun m7 => fX5_simulate_L27 a (i3 p) gFU seed 0 m7) = some (m', 0, r) ∧ Fr (a + 436) 308 m m'
noncomputable def simV (z : gB × gB) (seed : Int64) (p : Nat) : Int32 := Classical.epsilon (simP z seed p)
noncomputable def qSim (t : gT) (seed : Int64) (n : Int32) : Int32 := if wi n 1 60 = true then simV t.1 seed (nV n) else -9999002
section XL
variable {a : Nat} {t : gT} {m : gM}
theorem okL {F : Option (gM × Int32)} {v : Int32} (h : gI1 a t m) (e : F = some (m, v)) : gOkc a m F (t, v) := ⟨m, e, h, Fr.rf⟩
theorem okS {F : Option (gM × Int32)} {v : Int32} {m' : gM} (h : gI1 a t m) (e : F = some (m', v)) (hf : Fr (a + 436) 308 m m') : gOkc a m F (t, v) := ⟨m', e, h.tr hf, hf.sub (by omega) (by omega)⟩
theorem x_about (h : gI1 a t m) (x : Int32) : gOkc a m (fL_tryAbout a x m) (t, qAbout t x) := by
  have hc : fX5_isWithin x 0 12 m = some (m, bI (wi x 0 12)) := by rw [c_in]; rfl
  refine okL h ?_
  unfold qAbout
  cases hw : wi x 0 12 with
  | true =>
    obtain ⟨p, e, h1, h2, h3⟩ := wi_n (a := 0) (b := 12) hw
    rw [hw] at hc
    rw [if_pos rfl]
    refine gTry0 ?_
    unfold fX5_about
    rw [hc, gClI, gDemT, e, c_about h.1 h.2.1 (by omega) h2, gClI, nVi h3]
  | false =>
    rw [hw] at hc
    rw [if_neg (by simp)]
    refine gTryE (e := 2) (v := 0) ?_ (by omega) (by decide)
    unfold fX5_about
    rw [hc, gClI, gDemF]
theorem c_nxt {b t B hh c : Nat} {S D : gB} {m : gM} (h : Cx b S D hh m) (hI : Is B S) (hc : c < S.1 0) (ht : t < 100000) : ∀ (f j d : Nat), d + j = t + 201 → j < f → fX1_nextDueDay_L2 (b + 11 + 57 + 24 * c) (i3 t) f (i3 d) m = some (m, nxF S c j d) := by
  intro f
  induction f with
  | zero => intro j d h1 h2; omega
  | succ f ih =>
    intro j d h1 h3
    unfold fX1_nextDueDay_L2
    have hdu := du_le (d := d) hI hc
    rw [n200, i3a, iLt (by omega) (by omega)]
    cases j with
    | zero =>
      rw [if_pos (by omega)]
      rfl
    | succ j =>
      rw [if_neg (by omega), c_du (h.c hc) (hI.cust hc) (by omega), gClI, show duS (S.2 c) d = du S c d from rfl, n0, iLe (by omega) (by omega)]
      unfold nxF
      by_cases q2 : du S c d = 0
      · rw [if_pos (by omega), if_pos q2, gLtI, n1, i3a]
        exact ih j (d + 1) (by omega) (by omega)
      · rw [if_neg (by omega), if_neg q2]
theorem x_told (h : gI1 a t m) (x y : Int32) : gOkc a m (fL_tryTold a x y m) (t, qTold t x y) := by
  have hn := h.2.1.1.1
  have hd := h.2.1.1.2.1
  have hc2 : fX5_isWithin y 0 10 m = some (m, bI (wi y 0 10)) := by rw [c_in]; rfl
  refine okL h ?_
  unfold qTold
  cases hw : hcu t.1.1 x with
  | false =>
    rw [if_neg (by simp)]
    refine gTryE (e := 1) (v := 0) ?_ (by omega) (by decide)
    unfold fX5_customerOf
    rw [c_has h.1 h.2.1.1, hw, gClI, gDemF]
  | true =>
    obtain ⟨c, e, h1⟩ := hcu_x hw
    rw [if_pos rfl]
    cases hw2 : wi y 0 10 with
    | false =>
      rw [hw2] at hc2
      rw [if_neg (by simp)]
      refine gTryE (e := 2) (v := 0) ?_ (by omega) (by decide)
      unfold fX5_customerOf
      rw [c_has h.1 h.2.1.1, hw, gClI, gDemT, hc2, gClI, gDemF]
    | true =>
      rw [hw2] at hc2
      rw [if_pos rfl]
      obtain ⟨p, e2, k1, k2, k3⟩ := wi_n (a := 0) (b := 10) hw2
      rw [e, e2, nVi (by omega), nVi k3]
      refine gTry0 ?_
      rw [e] at hw
      rw [e2] at hc2
      have kc : fX5_customerOf a (i3 c) (i3 p) m = (if i3 p = 9 then gEl 10 (i3 c) fun c13 => gLt (m (a + 128 + 1)) fun x16 => gCl (fX1_dueOn ((a + 128 + 11) + 57 + 24 * c13) x16 m) fun m17 x18 => some (m17, 0, x18) else (if i3 p = 10 then gEl 10 (i3 c) fun c23 => gLt (m (a + 128 + 1)) fun x26 => gCl (fX1_nextDueDay ((a + 128 + 11) + 57 + 24 * c23) x26 m) fun m27 x28 => some (m27, 0, x28) else gEl 10 (i3 c) fun c32 => gCl (fX1_numberOf ((a + 128 + 11) + 57 + 24 * c32) (i3 p) m) fun m34 x35 => some (m34, 0, x35))) := by
        unfold fX5_customerOf
        rw [c_has h.1 h.2.1.1, hw, gClI, gDemT, hc2, gClI, gDemT]
      rw [kc, gEl10 (by omega), gEl10 (by omega), gEl10 (by omega), Cx.h1 h.1, gLtI, gLtI, c_du (Cx.c h.1 h1) (h.2.1.1.cust h1) (by omega), gClI, n9, n10, iEq (by omega) (by omega), iEq (by omega) (by omega)]
      unfold tolV
      by_cases q9 : p = 9
      · rw [if_pos q9, if_pos q9]
        rfl
      · rw [if_neg q9, if_neg q9]
        by_cases q10 : p = 10
        · rw [if_pos q10, if_pos q10]
          unfold fX1_nextDueDay
          rw [c_nxt h.1 h.2.1.1 h1 (by omega) gFU 201 (t.1.1.1 1) rfl (by show 201 < 5000; omega), gClI]
        · rw [if_neg q10, if_neg q10, c_num (Cx.c h.1 h1) (by omega), gClI]
theorem x_ord (h : gI1 a t m) (x y : Int32) : gOkc a m (fL_tryOrdered a x y m) (t, qOrd t x y) := by
  have hn := h.2.1.1.1
  refine okL h ?_
  unfold qOrd
  cases hw : hcu t.1.1 x with
  | false =>
    rw [if_neg (by simp)]
    refine gTryE (e := 1) (v := 0) ?_ (by omega) (by decide)
    unfold fX5_ordered
    rw [c_has h.1 h.2.1.1, hw, gClI, gLtI]
    rfl
  | true =>
    obtain ⟨c, e, h1⟩ := hcu_x hw
    cases hw2 : wi y 0 6 with
    | false =>
      rw [if_neg (by simp)]
      refine gTryE (e := 1) (v := 0) ?_ (by omega) (by decide)
      unfold fX5_ordered
      rw [c_has h.1 h.2.1.1, hw, gClI, gLtI, iB0, if_pos rfl, c_wk, hw2, gClI]
      rfl
    | true =>
      rw [if_pos (by decide)]
      obtain ⟨p, e2, k1, k2, k3⟩ := wi_n (a := 0) (b := 6) hw2
      refine gTry0 ?_
      have kc : fX5_ordered a x y m = gEl 10 x fun c12 => gRd m ((a + 128 + 11 + 57 + 24 * c12) + 11) 7 y fun x15 => some (m, 0, x15) := by
        unfold fX5_ordered
        rw [c_has h.1 h.2.1.1, hw, gClI, gLtI, iB0, if_pos rfl, c_wk, hw2, gClI, iB0, if_pos rfl]
        show gDem 1 (bI true) m _ = _
        rw [gDemT]
      rw [kc, e, e2, gEl10 (by omega), (Cx.c h.1 h1).rW (by omega), nVi (by omega), nVi k3]
theorem x_away (h : gI1 a t m) (x y z : Int32) : gOkc a m (fL_tryAway a x y z m) (t, qAway t x y z) := by
  have hn := h.2.1.1.1
  have hc2 : fX5_isWithin y 0 2 m = some (m, bI (wi y 0 2)) := by rw [c_in]; rfl
  have hc3 : fX5_isWithin z 0 1 m = some (m, bI (wi z 0 1)) := by rw [c_in]; rfl
  refine okL h ?_
  unfold qAway
  cases hw : hcu t.1.1 x with
  | false =>
    rw [if_neg (by simp)]
    refine gTryE (e := 1) (v := 0) ?_ (by omega) (by decide)
    unfold fX5_away
    rw [c_has h.1 h.2.1.1, hw, gClI, gLtI]
    rfl
  | true =>
    obtain ⟨c, e, h1⟩ := hcu_x hw
    cases hw2 : wi y 0 2 with
    | false =>
      rw [hw2] at hc2
      rw [if_neg (by simp)]
      refine gTryE (e := 1) (v := 0) ?_ (by omega) (by decide)
      unfold fX5_away
      rw [c_has h.1 h.2.1.1, hw, gClI, gLtI, iB0, if_pos rfl, hc2, gClI]
      rfl
    | true =>
      rw [hw2] at hc2
      rw [if_pos (by decide)]
      obtain ⟨p, e2, k1, k2, k3⟩ := wi_n (a := 0) (b := 2) hw2
      have kc : fX5_away a x y z m = gCl (fX5_isWithin z 0 1 m) fun m10 x11 => gDem 2 x11 m10 <| gEl 10 x fun c16 => gLt (m10 ((((a + 128) + 11) + 57 + 24 * c16) + 7)) fun x18 => (if y < x18 then (if z = 0 then gRd m10 ((((a + 128) + 11) + 57 + 24 * c16) + 18) 3 y fun x22 => some (m10, 0, x22) else gRd m10 ((((a + 128) + 11) + 57 + 24 * c16) + 21) 3 y fun x20 => some (m10, 0, x20)) else some (m10, 0, (-1))) := by
        unfold fX5_away
        rw [c_has h.1 h.2.1.1, hw, gClI, gLtI, iB0, if_pos rfl, hc2, gClI]
        rfl
      cases hw3 : wi z 0 1 with
      | false =>
        rw [hw3] at hc3
        rw [if_neg (by simp)]
        refine gTryE (e := 2) (v := 0) ?_ (by omega) (by decide)
        rw [kc, hc3, gClI, gDemF]
      | true =>
        rw [hw3] at hc3
        rw [if_pos rfl]
        obtain ⟨v, e3, l1, l2, l3⟩ := wi_n (a := 0) (b := 1) hw3
        have hcs := h.2.1.1.cust h1
        have h14 := hcs.2.2.1
        refine gTry0 ?_
        rw [kc, hc3, gClI, gDemT, e, e2, e3, gEl10 (by omega), (Cx.c h.1 h1).f7, gLtI, iLt (by omega) (by omega), nVi (by omega), nVi (by omega), nVi (by omega), n0, iEq (by omega) (by omega)]
        by_cases q : p < t.1.1.2 c 14
        · rw [if_pos q, if_pos q]
          rcases (show v = 0 ∨ v = 1 by omega) with r | r
          · subst r
            rw [if_pos rfl, (Cx.c h.1 h1).rF (by omega) q]
            rfl
          · subst r
            rw [if_neg (by omega), (Cx.c h.1 h1).rL (by omega) q]
        · rw [if_neg q, if_neg q]
theorem x_closed (h : gI1 a t m) (x y : Int32) : gOkc a m (fL_tryClosed a x y m) (t, qClosed t x y) := by
  refine okL h ?_
  unfold qClosed
  cases hw : wi x 0 3 with
  | false =>
    rw [if_neg (by simp)]
    refine gTryE (e := 1) (v := 0) ?_ (by omega) (by decide)
    unfold fX5_isClosed
    rw [c_st, hw, gClI, gLtI]
    rfl
  | true =>
    cases hw2 : wi y 0 6 with
    | false =>
      rw [if_neg (by simp)]
      refine gTryE (e := 1) (v := 0) ?_ (by omega) (by decide)
      unfold fX5_isClosed
      rw [c_st, hw, gClI, gLtI, iB0, if_pos rfl, c_wk, hw2, gClI]
      rfl
    | true =>
      rw [if_pos (by decide)]
      obtain ⟨s, e, j1, j2, j3⟩ := wi_n (a := 0) (b := 3) hw
      obtain ⟨p, e2, k1, k2, k3⟩ := wi_n (a := 0) (b := 6) hw2
      refine gTry0 ?_
      have kc : fX5_isClosed a x y m = gCl (fX0_isShut (a + 128) x y m) fun m10 x11 => (if x11 = 0 then some (m10, 0, 0) else some (m10, 0, 1)) := by
        unfold fX5_isClosed
        rw [c_st, hw, gClI, gLtI, iB0, if_pos rfl, c_wk, hw2, gClI, iB0, if_pos rfl]
        rfl
      have hv := h.2.1.1.2.2.2.2.1 (7 * s + p) (by omega)
      rw [← Nat.add_assoc] at hv
      rw [kc, e, e2, c_shut h.1 h.2.1.1 (by omega) (by omega), gClI, nVi (by omega), nVi k3]
      rcases (show t.1.1.1 (20 + 7 * s + p) = 0 ∨ t.1.1.1 (20 + 7 * s + p) = 1 by omega) with r | r <;> rw [r] <;> rfl
theorem x_round (h : gI1 a t m) (x : Int32) : gOkc a m (fL_tryRound a x m) (t, qRound t x) := by
  have hc : fX5_isWithin x 0 3 m = some (m, bI (wi x 0 3)) := by rw [c_in]; rfl
  refine okL h ?_
  unfold qRound
  cases hw : wi x 0 3 with
  | true =>
    obtain ⟨i, e, h1, h2, h3⟩ := wi_n (a := 0) (b := 3) hw
    rw [hw] at hc
    rw [if_pos rfl]
    refine gTry0 ?_
    unfold fX5_round
    rw [hc, gClI, gDemT, e, h.1.rO (by omega), nVi h3]
  | false =>
    rw [hw] at hc
    rw [if_neg (by simp)]
    refine gTryE (e := 1) (v := 0) ?_ (by omega) (by decide)
    unfold fX5_round
    rw [hc, gClI, gDemF]
theorem x_setq (h : gI1 a t m) (x : Int32) : gOkc a m (fL_trySetting a x m) (t, qSet t x) := by
  refine okL h ?_
  unfold qSet
  cases hw : wi x 0 4 with
  | true =>
    obtain ⟨i, e, h1, h2, h3⟩ := wi_n (a := 0) (b := 4) hw
    rw [if_pos rfl]
    refine gTry0 ?_
    unfold fX5_setting
    rw [c_se, hw, gClI, gDemT, e, h.1.rS (by omega), nVi h3]
  | false =>
    rw [if_neg (by simp)]
    refine gTryE (e := 2) (v := 0) ?_ (by omega) (by decide)
    unfold fX5_setting
    rw [c_se, hw, gClI, gDemF]
theorem x_due (h : gI1 a t m) (x f n w : Int32) : gOkc a m (fL_dues a x f n w m) (t, qDue t x f n w) := by
  have hn := h.2.1.1.1
  have hc1 : fX5_isWithin f 0 999 m = some (m, bI (wi f 0 999)) := by rw [c_in]; rfl
  have hc2 : fX5_isWithin n 0 500 m = some (m, bI (wi n 0 500)) := by rw [c_in]; rfl
  have hc3 : fX5_isWithin w 0 1 m = some (m, bI (wi w 0 1)) := by rw [c_in]; rfl
  refine okL h ?_
  unfold qDue
  cases hw : hcu t.1.1 x with
  | false =>
    rw [if_neg (by simp)]
    refine gTryE (e := 1) (v := 0) ?_ (by omega) (by decide)
    unfold fX5_due
    rw [c_has h.1 h.2.1.1, hw, gClI, gDemF]
  | true =>
    obtain ⟨c, e, h1⟩ := hcu_x hw
    rw [if_pos rfl]
    cases w1 : wi f 0 999 with
    | false =>
      rw [w1] at hc1
      rw [if_neg (by simp)]
      refine gTryE (e := 2) (v := 0) ?_ (by omega) (by decide)
      unfold fX5_due
      rw [c_has h.1 h.2.1.1, hw, gClI, gDemT, hc1, gClI, gDemF]
    | true =>
      rw [w1] at hc1
      cases w2 : wi n 0 500 with
      | false =>
        rw [w2] at hc2
        rw [if_neg (by simp)]
        refine gTryE (e := 2) (v := 0) ?_ (by omega) (by decide)
        unfold fX5_due
        rw [c_has h.1 h.2.1.1, hw, gClI, gDemT, hc1, gClI, gDemT, hc2, gClI, gDemF]
      | true =>
        rw [w2] at hc2
        cases w3 : wi w 0 1 with
        | false =>
          rw [w3] at hc3
          rw [if_neg (by simp)]
          refine gTryE (e := 2) (v := 0) ?_ (by omega) (by decide)
          unfold fX5_due
          rw [c_has h.1 h.2.1.1, hw, gClI, gDemT, hc1, gClI, gDemT, hc2, gClI, gDemT, hc3, gClI, gDemF]
        | true =>
          rw [w3] at hc3
          rw [if_pos (by decide)]
          obtain ⟨p, e2, i1, i2, i3'⟩ := wi_n (a := 0) (b := 999) w1
          obtain ⟨k, e3, k1, k2, k3⟩ := wi_n (a := 0) (b := 500) w2
          have hcs := h.2.1.1.cust h1
          refine gTry0 ?_
          unfold fX5_due
          rw [c_has h.1 h.2.1.1, hw, gClI, gDemT, hc1, gClI, gDemT, hc2, gClI, gDemT, hc3, gClI, gDemT, e, gEl10 (by omega), e2, e3, c_dbd (Cx.c h.1 h1) hcs i2 k2, c_weeks (Cx.c h.1 h1) hcs i2 k2, gClI, nVi (by omega), nVi i3', nVi k3]
          split <;> rfl
theorem x_why (h : gI1 a t m) (x : Int32) : gOkc a m (fL_tryWhy a x m) (t, qWhy t x) := by
  have hn := h.2.1.1.1
  unfold qWhy
  cases hw : hcu t.1.1 x with
  | false =>
    refine okL h ?_
    rw [if_neg (by simp)]
    refine gTryE (e := 1) (v := 0) ?_ (by omega) (by decide)
    unfold fX5_why
    rw [c_has h.1 h.2.1.1, hw, gClI, gDemF]
  | true =>
    obtain ⟨c, e, h1⟩ := hcu_x hw
    obtain ⟨m', s1, s2, s3⟩ := why2 h.2.1 (by omega) h1 m h.1
    rw [if_pos rfl, e, nVi (by omega)]
    refine ⟨m', gTry0 ?_, gI1.b (z := t.1) h s2 h.2.1 (fun x a1 a2 => s3 x (by omega)), s3.sub (by omega) (by omega)⟩
    rw [e] at hw
    unfold fX5_why
    rw [c_has h.1 h.2.1.1, hw, gClI, gDemT, s1, gClI]
theorem x_credit (h : gI1 a t m) (x n : Int32) : gOkc a m (fL_tryCredit a x n m) (t, qCredit t x n) := by
  have hn := h.2.1.1.1
  have hc2 : fX5_isWithin n 0 200 m = some (m, bI (wi n 0 200)) := by rw [c_in]; rfl
  unfold qCredit
  cases hw : hcu t.1.1 x with
  | false =>
    refine okL h ?_
    rw [if_neg (by simp)]
    refine gTryE (e := 1) (v := 0) ?_ (by omega) (by decide)
    unfold fX5_creditIn
    rw [c_has h.1 h.2.1.1, hw, gClI, gDemF]
  | true =>
    obtain ⟨c, e, h1⟩ := hcu_x hw
    rw [if_pos rfl]
    cases w2 : wi n 0 200 with
    | false =>
      refine okL h ?_
      rw [w2] at hc2
      rw [if_neg (by simp)]
      refine gTryE (e := 2) (v := 0) ?_ (by omega) (by decide)
      unfold fX5_creditIn
      rw [c_has h.1 h.2.1.1, hw, gClI, gDemT, hc2, gClI, gDemF]
    | true =>
      rw [w2] at hc2
      rw [if_pos rfl]
      obtain ⟨k, e3, k1, k2, k3⟩ := wi_n (a := 0) (b := 200) w2
      obtain ⟨m1, s1, s2, s3⟩ := c_copy (b := a + 436) h.1 h.2.1.1 (by omega)
      obtain ⟨m2, u1, u2, u3⟩ := c_days (p := k) s2 h.2.1 (by omega) (by omega)
      have hN := daysN h.2.1 k
      have hc9 : c < (daysZ k (t.1.1, t.1.2)).1.1 0 := by rw [hN]; exact h1
      refine okS h (gTry0 ?_) (s3.tr u3)
      rw [e] at hw
      unfold fX5_creditIn
      rw [e, c_has h.1 h.2.1.1, hw, gClI, gDemT, hc2, gClI, gDemT, s1, gCvI, e3, u1, gClI, gEl10 (by omega), (Cx.c u2 hc9).f1, gLtI, nVi k3, nVi (by omega)]
theorem x_clear (h : gI1 a t m) (x : Int32) : gOkc a m (fL_tryClear a x m) (t, qClear t x) := by
  have hn := h.2.1.1.1
  unfold qClear
  cases hw : hcu t.1.1 x with
  | false =>
    refine okL h ?_
    rw [if_neg (by simp)]
    refine gTryE (e := 1) (v := 0) ?_ (by omega) (by decide)
    unfold fX5_clearIn
    rw [c_has h.1 h.2.1.1, hw, gClI, gDemF]
  | true =>
    obtain ⟨c, e, h1⟩ := hcu_x hw
    rw [if_pos rfl]
    obtain ⟨m1, s1, s2, s3⟩ := c_copy (b := a + 436) h.1 h.2.1.1 (by omega)
    obtain ⟨m2, u1, u2⟩ := c_clr h.2.1 (by omega) h1 gFU 201 0 m1 rfl (by show 201 < 5000; omega) s2
    refine okS h (gTry0 ?_) (s3.tr u2)
    rw [e] at hw
    unfold fX5_clearIn
    rw [e, c_has h.1 h.2.1.1, hw, gClI, gDemT, s1, gCvI, n0, u1, nVi (by omega)]
theorem x_oven (h : gI1 a t m) (x : Int32) : gOkc a m (fL_tryOven a x m) (t, qOven t x) := by
  have hc : fX5_isWithin x 1 60 m = some (m, bI (wi x 1 60)) := by rw [c_in]; rfl
  have hd := h.2.1.1.2.1
  refine okL h ?_
  unfold qOven
  cases hw : wi x 1 60 with
  | true =>
    obtain ⟨p, e, h1, h2, h3⟩ := wi_n (a := 1) (b := 60) hw
    rw [hw] at hc
    rw [if_pos rfl]
    refine gTry0 ?_
    unfold fX5_leastOven
    rw [hc, gClI, gDemT, e, Cx.h1 h.1, gLtI, n0, c_lo h.1 h.2.1.1 (by omega) h2 gFU p (t.1.1.1 1) 0 rfl (by show p < 5000; omega) (by omega), nVi h3]
  | false =>
    rw [hw] at hc
    rw [if_neg (by simp)]
    refine gTryE (e := 2) (v := 0) ?_ (by omega) (by decide)
    unfold fX5_leastOven
    rw [hc, gClI, gDemF]
theorem x_best (h : gI1 a t m) (x : Int32) : gOkc a m (fL_tryBest a x m) (t, qBest t x) := by
  have hc : fX5_isWithin x 1 30 m = some (m, bI (wi x 1 30)) := by rw [c_in]; rfl
  unfold qBest
  cases hw : wi x 1 30 with
  | true =>
    obtain ⟨p, e, h1, h2, h3⟩ := wi_n (a := 1) (b := 30) hw
    rw [hw] at hc
    rw [if_pos rfl]
    obtain ⟨m1, s1, s2⟩ := c_best h.2.1 (by omega) h2 gFU 256 0 none m rfl (by show 256 < 5000; omega) (fun e l q => by cases q) h.1
    refine okS h (gTry0 ?_) s2
    unfold fX5_bestRound
    rw [hc, gClI, gDemT, e, nVi h3]
    exact s1
  | false =>
    rw [hw] at hc
    refine okL h ?_
    rw [if_neg (by simp)]
    refine gTryE (e := 2) (v := 0) ?_ (by omega) (by decide)
    unfold fX5_bestRound
    rw [hc, gClI, gDemF]
theorem x_sim (h : gI1 a t m) (seed : Int64) (x : Int32) : gOkc a m (fL_doSimulate a seed x m) (t, qSim t seed x) := by
  have hc : fX5_isWithin x 1 60 m = some (m, bI (wi x 1 60)) := by rw [c_in]; rfl
  unfold qSim
  cases hw : wi x 1 60 with
  | true =>
    obtain ⟨p, e, h1, h2, h3⟩ := wi_n (a := 1) (b := 60) hw
    rw [hw] at hc
    rw [if_pos rfl]
    have hs : simP t.1 seed p (simV t.1 seed p) := Classical.epsilon_spec (p := simP t.1 seed p) (c_sim h.2.1 h2)
    obtain ⟨m1, s1, s2⟩ := hs a m h.1
    refine okS h (gTry0 ?_) s2
    unfold fX5_simulate
    rw [hc, gClI, gDemT, e, nVi h3]
    exact s1
  | false =>
    rw [hw] at hc
    refine okL h ?_
    rw [if_neg (by simp)]
    refine gTryE (e := 2) (v := 0) ?_ (by omega) (by decide)
    unfold fX5_simulate
    rw [hc, gClI, gDemF]
theorem x_appendN (h : gI1 a t m) (x : Int32) (hx : wi x 0 255 = false) : gOkc a m (fL_tryAppend a x m) (t, -9999002) := by
  have hc : fX5_isWithin x 0 255 m = some (m, bI (wi x 0 255)) := by rw [c_in]; rfl
  rw [hx] at hc
  refine okL h (gTryE (e := 2) (v := 0) ?_ (by omega) (by decide))
  unfold fX5_append
  rw [hc, gClI, gDemF]
theorem x_script0 (h : gI1 a t m) : gOkc a m (fL_doScript a 0 0 m) (t, -9999002) := by
  have hc : fX5_isWithin 0 1 3 m = some (m, bI (wi 0 1 3)) := by rw [c_in]; rfl
  refine okL h (gTryE (e := 2) (v := 0) ?_ (by omega) (by decide))
  unfold fX5_runScript
  rw [hc, gClI, show wi 0 1 3 = false by decide, gDemF]
theorem x_script1 (h : gI1 a t m) (z : Int64) (hz : 1000000 ≤ z) : gOkc a m (fL_doScript a 1 z m) (t, -9999002) := by
  have hc : fX5_isWithin 1 1 3 m = some (m, bI (wi 1 1 3)) := by rw [c_in]; rfl
  refine okL h (gTryE (e := 2) (v := 0) ?_ (by omega) (by decide))
  unfold fX5_runScript
  rw [hc, gClI, show wi 1 1 3 = true by decide, gDemT]
  have e1 : fX5_runScript_L15 a 1 z gFU 1 0 m = fX5_runScript_L15 a 1 z 4999 (1 * 1000000) (0 + 1) m := by
    show fX5_runScript_L15 a 1 z (4999 + 1) 1 0 m = _
    rw [fX5_runScript_L15, if_neg (by simp), gLtI]
  have e2 : fX5_runScript_L15 a 1 z 4999 (1 * 1000000) (0 + 1) m = some (m, 2, 0) := by
    show fX5_runScript_L15 a 1 z (4998 + 1) (1 * 1000000) (0 + 1) m = _
    rw [fX5_runScript_L15, if_pos (by decide)]
    have c1 : ¬ lg_cmp z 0 < 0 := by
      have hp : z > 0 := Int64.lt_iff_toInt_lt.mpr (by
        have h1 := Int64.le_iff_toInt_le.mp hz
        rw [show (1000000 : Int64).toInt = 1000000 from rfl] at h1
        rw [show (0 : Int64).toInt = 0 from rfl]
        omega)
      unfold lg_cmp
      rw [if_pos hp]
      decide
    have c2 : 0 ≤ lg_cmp z (1 * 1000000) := by
      rw [show (1 * 1000000 : Int64) = 1000000 by decide]
      unfold lg_cmp
      by_cases g : z > 1000000
      · rw [if_pos g]
        decide
      · rw [if_neg g, if_pos (Int64.le_antisymm (Int64.not_lt.mp g) hz)]
        decide
    rw [if_neg c1, if_pos c2, gLtI]
    rfl
  rw [e1, e2]
end XL
