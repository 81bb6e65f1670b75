/-! what each call answers, and the state behind it -/
theorem gTry0 {es : List Nat} {F : Option (gM × Nat × Int32)} {m : gM} {v : Int32} (h : F = some (m, 0, v)) : gTry es F = some (m, v) := by
  rw [h]
  rfl
theorem gTryE {es : List Nat} {F : Option (gM × Nat × Int32)} {m : gM} {e : Nat} {v : Int32} (h : F = some (m, e, v)) (he : e ≠ 0) (hm : e ∈ es) : gTry es F = some (m, gThV e) := by
  rw [h]
  simp only [gTry]
  rw [if_neg he, if_pos hm]
theorem x_try {a k c : Nat} {t : gT} {m : gM} {p2 p3 p4 r : Int32} {z : gB × gB} {es : List Nat} (h : gI1 a t m) (hr : fX0_refusalOf (a + 128) (i3 k) p2 p3 p4 m = some (m, c)) (hc : 20000 ≤ c ∧ c < 20004) (h1 : c = 20001 → 1 ∈ es) (h2 : c = 20002 → 2 ∈ es) (h3 : c = 20003 → 3 ∈ es) (hok : c = 20000 → Iv 90000 z.1 z.2 ∧ ∀ m1, Cb (a + 128) t.1.1 t.1.2 m1 → ∃ m2, fX0_perform (a + 128) (i3 k) p2 p3 p4 m1 = some (m2, r) ∧ Cb (a + 128) z.1 z.2 m2 ∧ Fr (a + 128) 308 m1 m2) : ∃ m', gTry es (gClX (fX5_act a (i3 k) p2 p3 p4 m) fun m1 x2 => some (m1, 0, x2)) = some (m', (tact c t z r).2) ∧ gI1 a (tact c t z r).1 m' ∧ Fr a 5693 m m' := by
  rcases (show c = 20000 ∨ c = 20001 ∨ c = 20002 ∨ c = 20003 by omega) with q | q | q | q <;> subst q
  · obtain ⟨v1, v2⟩ := hok rfl
    obtain ⟨m', s1, s2, s3⟩ := x_act h hr v1 v2
    refine ⟨m', gTry0 ?_, s2, s3⟩
    rw [s1]
    rfl
  · refine ⟨m, gTryE (e := 1) (v := 0) ?_ (by omega) (h1 rfl), h, Fr.rf⟩
    unfold fX5_act
    rw [hr, gClI]
    rfl
  · refine ⟨m, gTryE (e := 2) (v := 0) ?_ (by omega) (h2 rfl), h, Fr.rf⟩
    unfold fX5_act
    rw [hr, gClI]
    rfl
  · refine ⟨m, gTryE (e := 3) (v := 0) ?_ (by omega) (h3 rfl), h, Fr.rf⟩
    unfold fX5_act
    rw [hr, gClI]
    rfl
def nV (x : Int32) : Nat := x.toNatClampNeg
theorem nVi {n : Nat} (h : n < 2147483648) : nV (i3 n) = n := i3c h
def pCome (t : gT) (x y : Int32) : gT × Int32 := tact (fr3 (wi x 0 3) (wi y 0 9999999) (decide (t.1.1.1 0 < 10))) t (nwS t.1.1 (nV x) (nV y), nwD t.1.1 t.1.2) (i3 (t.1.1.1 0))
def pChange (t : gT) (x y z : Int32) : gT × Int32 := tact (fr3 (hcu t.1.1 x && wi y 0 6) (wi z 0 9) true) t (cuS t.1.1 (nV x) (up (t.1.1.2 (nV x)) (1 + nV y) (nV z)), t.1.2) (i3 (t.1.1.2 (nV x) (1 + nV y)))
def pHoli (t : gT) (x y z : Int32) : gT × Int32 := tact (fr3 (hcu t.1.1 x) (wi y 0 999 && wi z y.toInt 999) (decide (t.1.1.2 (nV x) 14 < 3))) t (cuS t.1.1 (nV x) (hoR (t.1.1.2 (nV x)) (nV y) (nV z)), t.1.2) (i3 (t.1.1.2 (nV x) 14 + 1))
def pDrop (t : gT) (x y : Int32) : gT × Int32 := tact (fr3 (hcu t.1.1 x && wi y 0 ((t.1.1.2 (nV x) 14 : Int) - 1)) true true) t (cuS t.1.1 (nV x) (drR (t.1.1.2 (nV x)) (nV y)), t.1.2) (i3 (t.1.1.2 (nV x) 14 - 1))
def clsV (z : Int32) : Nat := if z = 0 then 0 else 1
def pClose (t : gT) (x y z : Int32) : gT × Int32 := tact (fr3 (wi x 0 3 && wi y 0 6) true true) t (sH t.1.1 (20 + 7 * nV x + nV y) (clsV z), t.1.2) (i3 (sm (fun k => (sH t.1.1 (20 + 7 * nV x + nV y) (clsV z)).1 (20 + 7 * nV x + k)) 7))
def pSwap (t : gT) (x y : Int32) : gT × Int32 := tact (fr3 (wi x 0 3 && wi y 0 3) true true) t (swS t.1.1 (nV x) (nV y), t.1.2) (i3 (plc t.1.1 (nV y)))
def pSet (t : gT) (x y : Int32) : gT × Int32 := tact (fr3 true (seB x y) true) t (sH t.1.1 (11 + nV x) (nV y), t.1.2) (i3 (t.1.1.1 (11 + nV x)))
def pDays (t : gT) (x : Int32) : gT × Int32 := tact (fr3 true (wi x 1 60) true) t (daysZ (nV x) t.1) (i3 ((daysZ (nV x) t.1).2.1 3 + (daysZ (nV x) t.1).2.1 4) - i3 (t.1.2.1 3 + t.1.2.1 4))
def pUndo (t : gT) : gT × Int32 := match t.2.1 with | [] => (t, -9999003) | z :: l => ((z, l, t.2.2), i3 l.length)
def pKeep (t : gT) (x : Int32) : gT × Int32 := if wi x 0 1 = true then ((t.1, t.2.1, (up t.2.2.1 (nV x) 1, up t.2.2.2 (nV x) t.1)), i3 (t.1.1.1 1)) else (t, -9999001)
def pBack (t : gT) (x : Int32) : gT × Int32 := if wi x 0 1 = true then (if t.2.2.1 (nV x) = 1 then ((t.2.2.2 (nV x), [], t.2.2), i3 ((t.2.2.2 (nV x)).1.1 1)) else (t, -9999003)) else (t, -9999001)
def gOkc (a : Nat) (m : gM) (F : Option (gM × Int32)) (q : gT × Int32) : Prop := ∃ m' : gM, F = some (m', q.2) ∧ gI1 a q.1 m' ∧ Fr a 5693 m m'
theorem fr3_e {x y z : Bool} : (fr3 x y z = 20001 → x = false) ∧ (fr3 x y z = 20002 → y = false) ∧ (fr3 x y z = 20003 → z = false) := by
  cases x <;> cases y <;> cases z <;> decide
section XA
variable {a : Nat} {t : gT} {m : gM}
theorem x_come (h : gI1 a t m) (x y : Int32) : gOkc a m (fL_tryCome a x y m) (pCome t x y) := by
  have hr := rf0 (p2 := x) (p3 := y) (p4 := 0) h.1 h.2.1.1
  refine x_try (k := 0) (es := [1, 2, 3]) h hr (fr3_le _ _ _) (fun _ => by decide) (fun _ => by decide) (fun _ => by decide) (fun q => ?_)
  obtain ⟨q1, q2, q3⟩ := fr3_ok q
  obtain ⟨st, e1, -, b1, -⟩ := wi_n (a := 0) (b := 3) q1
  obtain ⟨L, e2, -, b2, -⟩ := wi_n (a := 0) (b := 9999999) q2
  have q4 := of_decide_eq_true q3
  rw [e1, e2, nVi (by omega), nVi (by omega)]
  exact ⟨h.2.1.nw q4 (by omega), fun m1 hb => pf0 hb h.2.1.1 q4 (by omega) (by omega)⟩
theorem x_change (h : gI1 a t m) (x y z : Int32) : gOkc a m (fL_tryChange a x y z m) (pChange t x y z) := by
  have hn := h.2.1.1.1
  have hr := rf1 (p2 := x) (p3 := y) (p4 := z) h.1 h.2.1.1
  refine x_try (k := 1) (es := [1, 2]) h hr (fr3_le _ _ _) (fun _ => by decide) (fun _ => by decide) (fun q => absurd (fr3_e.2.2 q) (by decide)) (fun q => ?_)
  obtain ⟨q1, q2, q3⟩ := fr3_ok q
  rw [Bool.and_eq_true] at q1
  obtain ⟨c, e1, b1⟩ := hcu_x q1.1
  obtain ⟨d, e2, -, b2, -⟩ := wi_n (a := 0) (b := 6) q1.2
  obtain ⟨v, e3, -, b3, -⟩ := wi_n (a := 0) (b := 9) q2
  rw [e1, e2, e3, nVi (by omega), nVi (by omega), nVi (by omega)]
  exact ⟨h.2.1.wk b1 b3 (by omega), fun m1 hb => pf1 hb h.2.1.1 b1 (by omega) b3⟩
theorem x_holi (h : gI1 a t m) (x y z : Int32) : gOkc a m (fL_tryHoliday a x y z m) (pHoli t x y z) := by
  have hn := h.2.1.1.1
  obtain ⟨zz, hz, hr⟩ := rf2 (p2 := x) (p3 := y) (p4 := z) h.1 h.2.1.1
  have hr2 : fX0_refusalOf (a + 128) 2 x y z m = some (m, fr3 (hcu t.1.1 x) (wi y 0 999 && wi z y.toInt 999) (decide (t.1.1.2 (nV x) 14 < 3))) := by
    rw [hr]
    cases w : hcu t.1.1 x with
    | false => rfl
    | true =>
      obtain ⟨c, e1, b1⟩ := hcu_x w
      rw [hz c e1 b1, e1, nVi (by omega)]
  refine x_try (k := 2) (es := [1, 2, 3]) h hr2 (fr3_le _ _ _) (fun _ => by decide) (fun _ => by decide) (fun _ => by decide) (fun q => ?_)
  obtain ⟨q1, q2, q3⟩ := fr3_ok q
  rw [Bool.and_eq_true] at q2
  obtain ⟨c, e1, b1⟩ := hcu_x q1
  obtain ⟨d, e2, -, b2, b4⟩ := wi_n (a := 0) (b := 999) q2.1
  have q5 := q2.2
  rw [e2, i3t b4] at q5
  obtain ⟨v, e3, b5, b3, -⟩ := wi_n (a := d) (b := 999) q5
  have q6 := of_decide_eq_true q3
  rw [e1, nVi (by omega)] at q6
  rw [e1, e2, e3, nVi (by omega), nVi (by omega), nVi (by omega)]
  have hcs := h.2.1.1.cust b1
  exact ⟨h.2.1.cu (hoR_s hcs q6 (by omega) (by omega)), fun m1 hb => pf2 hb h.2.1.1 b1 q6 b5 (by omega)⟩
theorem x_drop (h : gI1 a t m) (x y : Int32) : gOkc a m (fL_tryDrop a x y m) (pDrop t x y) := by
  have hn := h.2.1.1.1
  obtain ⟨zz, hz, hr⟩ := rf3 (p2 := x) (p3 := y) (p4 := 0) h.1 h.2.1.1
  have hr2 : fX0_refusalOf (a + 128) 3 x y 0 m = some (m, fr3 (hcu t.1.1 x && wi y 0 ((t.1.1.2 (nV x) 14 : Int) - 1)) true true) := by
    rw [hr]
    cases w : hcu t.1.1 x with
    | false => rfl
    | true =>
      obtain ⟨c, e1, b1⟩ := hcu_x w
      rw [hz c e1 b1, e1, nVi (by omega)]
  refine x_try (k := 3) (es := [1]) h hr2 (fr3_le _ _ _) (fun _ => by decide) (fun q => absurd (fr3_e.2.1 q) (by decide)) (fun q => absurd (fr3_e.2.2 q) (by decide)) (fun q => ?_)
  obtain ⟨q1, -, -⟩ := fr3_ok q
  rw [Bool.and_eq_true] at q1
  obtain ⟨c, e1, b1⟩ := hcu_x q1.1
  have q5 := q1.2
  rw [e1, nVi (by omega)] at q5
  have hcs := h.2.1.1.cust b1
  have h14 := hcs.2.2.1
  obtain ⟨k, e2, -, b2, b3⟩ := wi_x q5 (Int.le_refl 0)
  rw [e1, e2, nVi (by omega), nVi b3]
  exact ⟨h.2.1.cu (drR_s hcs (by omega)), fun m1 hb => pf3 hb h.2.1.1 b1 (by omega)⟩
theorem x_close (h : gI1 a t m) (x y z : Int32) : gOkc a m (fL_closes a x y z m) (pClose t x y z) := by
  have hr := rf4 (b := a + 128) (m := m) (p2 := x) (p3 := y) (p4 := if z = 0 then 0 else 1)
  refine x_try (k := 4) (es := [1]) h hr (fr3_le _ _ _) (fun _ => by decide) (fun q => absurd (fr3_e.2.1 q) (by decide)) (fun q => absurd (fr3_e.2.2 q) (by decide)) (fun q => ?_)
  obtain ⟨q1, -, -⟩ := fr3_ok q
  rw [Bool.and_eq_true] at q1
  obtain ⟨s, e1, -, b1, -⟩ := wi_n (a := 0) (b := 3) q1.1
  obtain ⟨d, e2, -, b2, -⟩ := wi_n (a := 0) (b := 6) q1.2
  have hv : clsV z ≤ 1 := by unfold clsV; split <;> omega
  have hp : (if (if z = 0 then (0 : Int32) else 1) = 1 then (1 : Int32) else 0) = i3 (clsV z) := by
    unfold clsV
    by_cases c : z = 0
    · rw [if_pos c, if_pos c]; rfl
    · rw [if_neg c, if_neg c]; rfl
  rw [e1, e2, nVi (by omega), nVi (by omega)]
  exact ⟨h.2.1.sh (by omega) (by omega) hv, fun m1 hb => pf4 hb h.2.1 (by omega) (by omega) hp hv⟩
theorem x_swap (h : gI1 a t m) (x y : Int32) : gOkc a m (fL_trySwap a x y m) (pSwap t x y) := by
  have hr := rf5 (b := a + 128) (m := m) (p2 := x) (p3 := y) (p4 := 0)
  refine x_try (k := 5) (es := [1]) h hr (fr3_le _ _ _) (fun _ => by decide) (fun q => absurd (fr3_e.2.1 q) (by decide)) (fun q => absurd (fr3_e.2.2 q) (by decide)) (fun q => ?_)
  obtain ⟨q1, -, -⟩ := fr3_ok q
  rw [Bool.and_eq_true] at q1
  obtain ⟨s, e1, -, b1, -⟩ := wi_n (a := 0) (b := 3) q1.1
  obtain ⟨d, e2, -, b2, -⟩ := wi_n (a := 0) (b := 3) q1.2
  rw [e1, e2, nVi (by omega), nVi (by omega)]
  exact ⟨h.2.1.sw (by omega) (by omega), fun m1 hb => pf5 hb h.2.1.1 (by omega) (by omega)⟩
theorem x_set (h : gI1 a t m) (x y : Int32) : gOkc a m (fL_tryLay a x y m) (pSet t x y) := by
  have hr := rf6 (b := a + 128) (m := m) (p2 := x) (p3 := y) (p4 := 0)
  refine x_try (k := 6) (es := [2]) h hr (fr3_le _ _ _) (fun q => absurd (fr3_e.1 q) (by decide)) (fun _ => by decide) (fun q => absurd (fr3_e.2.2 q) (by decide)) (fun q => ?_)
  obtain ⟨-, q1, -⟩ := fr3_ok q
  obtain ⟨i, v, e1, e2, ho⟩ := seX q1
  have hi := stOk_i ho
  have hv : v < 2147483648 := by unfold stOk at ho; omega
  rw [e1, e2, nVi (by omega), nVi hv]
  exact ⟨h.2.1.st ho, fun m1 hb => pf6 hb ho⟩
theorem x_days (h : gI1 a t m) (hd : t.1.1.1 1 ≤ 89900) (x : Int32) : gOkc a m (fL_tryDays a x m) (pDays t x) := by
  have hr := rf7 (b := a + 128) (m := m) (p2 := x) (p3 := 0) (p4 := 0)
  refine x_try (k := 7) (es := [2]) h hr (fr3_le _ _ _) (fun q => absurd (fr3_e.1 q) (by decide)) (fun _ => by decide) (fun q => absurd (fr3_e.2.2 q) (by decide)) (fun q => ?_)
  obtain ⟨-, q1, -⟩ := fr3_ok q
  obtain ⟨n, e1, b0, b1, -⟩ := wi_n (a := 1) (b := 60) q1
  rw [e1, nVi (by omega)]
  have hI : Iv 89900 t.1.1 t.1.2 := ⟨⟨h.2.1.1.1, hd, h.2.1.1.2.2⟩, h.2.1.2⟩
  exact ⟨(hI.days n).1.le (by omega), fun m1 hb => pf7 hb h.2.1 (by omega) b0 b1⟩
theorem x_undo (h : gI1 a t m) : gOkc a m (fL_tryUndo a m) (pUndo t) := by
  have h0 := h
  obtain ⟨h1, h2, ⟨nx, q, F, h3, h4, hh, ⟨k1, k2, k3⟩, h5⟩, h6⟩ := h
  by_cases hq : q = 0
  · subst hq
    have e : pUndo t = (t, -9999003) := by
      unfold pUndo
      rw [← hh]
      rfl
    rw [e]
    refine ⟨m, gTryE (e := 3) (v := 0) ?_ (by omega) (by decide), h0, Fr.rf⟩
    unfold fX5_undo
    rw [k1, gLtI, if_pos (by decide), gLtI]
    rfl
  · have e : pUndo t = ((F (q - 1), hl (q - 1) F, t.2.2), i3 (q - 1)) := by
      have e1 : hl q F = F (q - 1) :: hl (q - 1) F := by
        obtain ⟨p, rfl⟩ : ∃ p, q = p + 1 := ⟨q - 1, by omega⟩
        rfl
      unfold pUndo
      rw [← hh, e1]
      dsimp only
      rw [hl_len]
    rw [e]
    have c1 := k3 (q - 1) (by omega)
    have c3 := h5 (q - 1) (by omega)
    have eR : rg nx q (q - 1) = (nx + 13) % 14 := by unfold rg; omega
    rw [eR] at c1
    have hr := Nat.mod_lt (nx + 13) (show 0 < 14 by omega)
    have hn' := c3.1.1
    obtain ⟨m1, hm1⟩ : ∃ m1, m1 = upd m (a + 744 + 2) (i3 ((nx + 13) % 14)) := ⟨_, rfl⟩
    have c1' : Cb (a + 744 + 3 + 14 + 308 * ((nx + 13) % 14)) (F (q - 1)).1 (F (q - 1)).2 m1 := by
      rw [hm1]
      exact Cx.fr c1 hn' (Fr.up (a := a + 744 + 2) (n := 1) (by omega) (by omega)) (by omega)
    obtain ⟨m2, s1, s2, s3⟩ := c_copy (b := a + 128) c1' c3.1 (by omega)
    obtain ⟨m3, hm3⟩ : ∃ m3, m3 = upd m2 (a + 744 + 1) (i3 (q - 1)) := ⟨_, rfl⟩
    have e1 : m1 (a + 744 + 2) = i3 ((nx + 13) % 14) := by rw [hm1, upd_s]
    have e2 : m2 (a + 744 + 1) = i3 q := by rw [s3 _ (by omega), hm1, upd_n (by omega)]; exact k1
    have kc : fX5_undo a m = some (m3, 0, i3 (q - 1)) := by
      unfold fX5_undo fX2_takeBack
      rw [k1, gLtI, n0, iLe (by omega) (by omega), if_neg (by omega), gLtI, ← bIt, gDemT, k2, gLtI, n14, i3a, bIt, n1, i3s (by omega), i3r (by omega) (by omega), gLtI, show nx + 14 - 1 = nx + 13 from by omega, ← hm1, e1, gLtI, gElI hr (by omega), s1, gCvI, e2, gLtI, i3s (by omega), gLtI, ← hm3]
      rw [hm3, upd_s, gLtI, gClI]
    have f3 : ∀ x, (x < a + 128 ∨ (a + 436 ≤ x ∧ x < a + 744) ∨ a + 747 ≤ x) → m3 x = m x := fun x hx => by
      rw [hm3, upd_n (by omega), s3 _ (by omega), hm1, upd_n (by omega)]
    refine ⟨m3, gTry0 kc, ⟨?_, c3, ⟨(nx + 13) % 14, q - 1, F, hr, by omega, rfl, ⟨?_, ?_, fun j hj => ?_⟩, fun j hj => h5 j (by omega)⟩, fun s hs => ?_⟩, fun x hx => ?_⟩
    · exact Cx.ag s2 hn' (fun x a1 a2 a3 => by rw [hm3, upd_n (by omega)])
    · show m3 (a + 744 + 1) = i3 (q - 1)
      rw [hm3, upd_s]
    · rw [hm3, upd_n (by omega), s3 _ (by omega)]; exact e1
    · have hj2 : j < q - 1 := hj
      have h14 := rg_lt nx q j
      have e6 : rg ((nx + 13) % 14) (q - 1) j = rg nx q j := by unfold rg; omega
      show Cb (a + 744 + 3 + 14 + 308 * rg ((nx + 13) % 14) (q - 1) j) _ _ m3
      rw [e6]
      exact Cx.ag (k3 j (by omega)) (h5 j (by omega)).1.1 (fun x a1 a2 a3 => f3 x (by omega))
    · obtain ⟨d1, d2, d3⟩ := h6 s hs
      refine ⟨by rw [f3 _ (by omega)]; exact d1, d2, fun e => ?_⟩
      obtain ⟨j1, j2⟩ := d3 e
      exact ⟨Cx.ag j1 j2.1.1 (fun x a1 a2 a3 => f3 x (by omega)), j2⟩
    · rw [hm3, upd_n (by omega), s3 _ (by omega), hm1, upd_n (by omega)]
theorem x_keep (h : gI1 a t m) (x : Int32) : gOkc a m (fL_tryKeep a x m) (pKeep t x) := by
  have hc : fX5_isSlot x m = some (m, bI (wi x 0 1)) := by
    unfold fX5_isSlot
    rw [c_in, gClI, gRzB]
    rfl
  unfold pKeep
  cases w1 : wi x 0 1 with
  | false =>
    rw [w1] at hc
    rw [if_neg (by decide)]
    refine ⟨m, gTryE (e := 1) (v := 0) ?_ (by omega) (by decide), h, Fr.rf⟩
    unfold fX5_save
    rw [hc, gClI, gDemF]
  | true =>
    rw [w1] at hc
    rw [if_pos rfl]
    obtain ⟨h1, h2, ⟨nx, q, F, h3, h4, hh, ⟨k1, k2, k3⟩, h5⟩, h6⟩ := h
    have hn := h2.1.1
    obtain ⟨s, e, -, b1, -⟩ := wi_n (a := 0) (b := 1) w1
    obtain ⟨m1, s1, s2, s3⟩ := c_copy (b := a + 5073 + 4 + 308 * s) h1 h2.1 (by omega)
    obtain ⟨m2, hm2⟩ : ∃ m2, m2 = upd m1 (a + 5075 + s) (i3 1) := ⟨_, rfl⟩
    have e1 : m2 (a + 128 + 1) = i3 (t.1.1.1 1) := by rw [hm2, upd_n (by omega), s3 _ (by omega)]; exact Cx.h1 h1
    have kc : fX5_save a x m = some (m2, 0, i3 (t.1.1.1 1)) := by
      unfold fX5_save
      rw [hc, gClI, gDemT, e, gElI (by omega) (by omega), s1, gCvI, gWrI (by omega) (by omega), show vp_nar .boolean 1 = i3 1 from rfl, ← hm2, e1, gLtI]
    have f3 : ∀ x, (x < a + 5075 ∨ a + 5693 ≤ x) → m2 x = m x := fun x x1 => by rw [hm2, upd_n (by omega), s3 _ (by omega)]
    rw [e, nVi (by omega)]
    refine ⟨m2, gTry0 (by rw [← e]; exact kc), ⟨?_, h2, ⟨nx, q, F, h3, h4, hh, ⟨?_, ?_, fun j hj => ?_⟩, h5⟩, fun u hu => ?_⟩, fun x hx => f3 x (by omega)⟩
    · exact Cx.ag h1 hn (fun x a1 a2 a3 => f3 x (by omega))
    · rw [f3 _ (by omega)]; exact k1
    · rw [f3 _ (by omega)]; exact k2
    · have hr := rg_lt nx q j
      exact Cx.ag (k3 j hj) (h5 j hj).1.1 (fun x a1 a2 a3 => f3 x (by omega))
    · by_cases c : u = s
      · subst c
        show m2 (a + 5075 + u) = i3 (up t.2.2.1 u 1 u) ∧ up t.2.2.1 u 1 u ≤ 1 ∧ (up t.2.2.1 u 1 u = 1 → Cb (a + 5073 + 4 + 308 * u) (up t.2.2.2 u t.1 u).1 (up t.2.2.2 u t.1 u).2 m2 ∧ Iv 90000 (up t.2.2.2 u t.1 u).1 (up t.2.2.2 u t.1 u).2)
        rw [up_s, up_s]
        refine ⟨by rw [hm2, upd_s], by omega, fun _ => ⟨?_, h2⟩⟩
        exact Cx.ag s2 hn (fun x a1 a2 a3 => by rw [hm2, upd_n (by omega)])
      · show m2 (a + 5075 + u) = i3 (up t.2.2.1 s 1 u) ∧ up t.2.2.1 s 1 u ≤ 1 ∧ (up t.2.2.1 s 1 u = 1 → Cb (a + 5073 + 4 + 308 * u) (up t.2.2.2 s t.1 u).1 (up t.2.2.2 s t.1 u).2 m2 ∧ Iv 90000 (up t.2.2.2 s t.1 u).1 (up t.2.2.2 s t.1 u).2)
        rw [up_n c, up_n c]
        obtain ⟨d1, d2, d3⟩ := h6 u hu
        have ff : ∀ x, (x = a + 5075 + u ∨ (a + 5073 + 4 + 308 * u ≤ x ∧ x < a + 5073 + 4 + 308 * u + 308)) → m2 x = m x := fun x hx => by
          rw [hm2, upd_n (by omega), s3 _ (by omega)]
        refine ⟨by rw [ff _ (by omega)]; exact d1, d2, fun e => ?_⟩
        obtain ⟨j1, j2⟩ := d3 e
        exact ⟨Cx.ag j1 j2.1.1 (fun x a1 a2 a3 => ff x (by omega)), j2⟩
theorem x_back (h : gI1 a t m) (x : Int32) : gOkc a m (fL_tryBack a x m) (pBack t x) := by
  have hc : fX5_isSlot x m = some (m, bI (wi x 0 1)) := by
    unfold fX5_isSlot
    rw [c_in, gClI, gRzB]
    rfl
  unfold pBack
  cases w1 : wi x 0 1 with
  | false =>
    rw [w1] at hc
    rw [if_neg (by decide)]
    refine ⟨m, gTryE (e := 1) (v := 0) ?_ (by omega) (by decide), h, Fr.rf⟩
    unfold fX5_restore
    rw [hc, gClI, gDemF]
  | true =>
    rw [w1] at hc
    rw [if_pos rfl]
    have h0 := h
    obtain ⟨h1, h2, -, h6⟩ := h
    obtain ⟨s, e, -, b1, -⟩ := wi_n (a := 0) (b := 1) w1
    obtain ⟨d1, d2, d3⟩ := h6 s (by omega)
    have q1 : ∀ (k : Int32 → Option (gM × Nat × Int32)), gRd m (a + 5075) 2 (i3 s) k = k (i3 (t.2.2.1 s)) := fun k => by rw [gRdI (by omega) (by omega), d1]
    rw [e, nVi (by omega)]
    rw [e] at hc
    by_cases r : t.2.2.1 s = 1
    · rw [if_pos r]
      obtain ⟨j1, j3⟩ := d3 r
      have hn' := j3.1.1
      obtain ⟨m1, s1, s2, s3⟩ := c_copy (b := a + 128) j1 j3.1 (by omega)
      obtain ⟨m2, hm2⟩ : ∃ m2, m2 = upd (upd m1 (a + 744 + 1) 0) (a + 744 + 2) 0 := ⟨_, rfl⟩
      have g2 : Cb (a + 128) (t.2.2.2 s).1 (t.2.2.2 s).2 m2 := Cx.ag s2 hn' (fun x a1 a2 a3 => by rw [hm2, upd_n (by omega), upd_n (by omega)])
      have kc : fX5_restore a (i3 s) m = some (m2, 0, i3 ((t.2.2.2 s).1.1 1)) := by
        unfold fX5_restore fX2_forgetAll
        rw [hc, gClI, gDemT, q1, r, show i3 1 = bI true from rfl, gDemT]
        rw [gElI (by omega) (by omega), s1, gCvI, gLtI, gLtI, ← hm2, gCvI, Cx.h1 g2, gLtI]
      have f2 : ∀ x, (x < a + 128 ∨ (a + 436 ≤ x ∧ x < a + 744) ∨ a + 747 ≤ x) → m2 x = m x := fun x hx => by rw [hm2, upd_n (by omega), upd_n (by omega), s3 _ (by omega)]
      refine ⟨m2, gTry0 kc, ⟨g2, j3, ⟨0, 0, fun _ => (S0, D0), by omega, Nat.zero_le _, rfl, ⟨?_, ?_, fun j hj => absurd hj (Nat.not_lt_zero j)⟩, fun j hj => absurd hj (Nat.not_lt_zero j)⟩, fun u hu => ?_⟩, fun x hx => f2 x (by omega)⟩
      · show m2 (a + 744 + 1) = i3 0
        rw [hm2, upd_n (by omega), upd_s]
        rfl
      · rw [hm2, upd_s]
        rfl
      · obtain ⟨z1, z2, z3⟩ := h6 u hu
        refine ⟨by rw [f2 _ (by omega)]; exact z1, z2, fun e => ?_⟩
        obtain ⟨y1, y2⟩ := z3 e
        exact ⟨Cx.ag y1 y2.1.1 (fun x a1 a2 a3 => f2 x (by omega)), y2⟩
    · rw [if_neg r]
      have r0 : t.2.2.1 s = 0 := by omega
      refine ⟨m, gTryE (e := 3) (v := 0) ?_ (by omega) (by decide), h0, Fr.rf⟩
      unfold fX5_restore
      rw [hc, gClI, gDemT, q1, r0]
      rfl
end XA
