/-! what refuses an act, and an act -/
def fr3 (x y z : Bool) : Nat := if x = false then 20001 else if y = false then 20002 else if z = false then 20003 else 20000
theorem c_fr (x y z : Bool) (m : gM) : fX0_firstRefusal (bI x) (bI y) (bI z) m = some (m, fr3 x y z) := by
  cases x <;> cases y <;> cases z <;> rfl
theorem fr3_le (x y z : Bool) : 20000 ≤ fr3 x y z ∧ fr3 x y z < 20004 := by
  cases x <;> cases y <;> cases z <;> decide
theorem fr3_ok {x y z : Bool} (h : fr3 x y z = 20000) : x = true ∧ y = true ∧ z = true := by
  cases x <;> cases y <;> cases z <;> first | exact ⟨rfl, rfl, rfl⟩ | exact absurd h (by decide)
theorem gOkE3 {β : Type} {x y z : Bool} {k : Option β} : gOkE (fr3 x y z) k = k := by
  unfold gOkE
  rw [if_pos (fr3_le x y z)]
def hcu (S : gB) (p : Int32) : Bool := wi p 0 ((S.1 0 : Int) - 1)
theorem i3pred {n : Nat} (hn : n ≤ 10) : (i3 n - 1).toInt = (n : Int) - 1 := by
  rw [n1, Int32.toInt_sub, i3t (by omega), i3t (by omega), Int.bmod_eq_of_le (by omega) (by omega)]
  omega
theorem c_has {b B hh : Nat} {S D : gB} {m : gM} (h : Cx b S D hh m) (hI : Is B S) (p : Int32) : fX0_hasCustomer b p m = some (m, bI (hcu S p)) := by
  unfold fX0_hasCustomer hcu
  rw [h.h0, gLtI, c_in, gClI, i3pred hI.1, gRzB]
  rfl
theorem hcu_x {S : gB} {p : Int32} (h : hcu S p = true) : ∃ c, p = i3 c ∧ c < S.1 0 := by
  obtain ⟨n, e, h1, h2, h3⟩ := wi_x h (by omega)
  exact ⟨n, e, by omega⟩
theorem wi_n {p : Int32} {a b : Nat} (h : wi p (a : Int) (b : Int) = true) : ∃ n, p = i3 n ∧ a ≤ n ∧ n ≤ b ∧ n < 2147483648 := by
  obtain ⟨n, e, h1, h2, h3⟩ := wi_x h (by omega)
  exact ⟨n, e, by omega, by omega, h3⟩
theorem c_st (p : Int32) (m : gM) : fX5_isStreet p m = some (m, bI (wi p 0 3)) := by
  unfold fX5_isStreet
  rw [c_in, gClI, gRzB]
  rfl
theorem c_wk (p : Int32) (m : gM) : fX5_isWeekday p m = some (m, bI (wi p 0 6)) := by
  unfold fX5_isWeekday
  rw [c_in, gClI, gRzB]
  rfl
theorem c_se (p : Int32) (m : gM) : fX5_isSetting p m = some (m, bI (wi p 0 4)) := by
  unfold fX5_isSetting
  rw [c_in, gClI, gRzB]
  rfl
theorem c_in' (p : Int32) (a b : Nat) (ha : a < 2147483648) (hb : b < 2147483648) (m : gM) : fX5_isWithin p (i3 a) (i3 b) m = some (m, bI (wi p a b)) := by
  rw [c_in, i3t ha, i3t hb]
theorem rfM {m : gM} (x y z : Bool) : (gCl (fX0_firstRefusal (bI x) (bI y) (bI z) m) fun m89 x90 => gOkE x90 <| some (m89, x90)) = some (m, fr3 x y z) := by
  rw [c_fr, gClI, gOkE3]
section RF
variable {b B hh : Nat} {S D : gB} {m : gM} {p2 p3 p4 : Int32}
theorem rf0 (h : Cx b S D hh m) (hI : Is B S) : fX0_refusalOf b 0 p2 p3 p4 m = some (m, fr3 (wi p2 0 3) (wi p3 0 9999999) (decide (S.1 0 < 10))) := by
  have hn := hI.1
  unfold fX0_refusalOf
  rw [if_pos rfl, c_st, gClI, n0, n9999999, c_in' _ _ _ (by omega) (by omega), gClI, h.h0, gLtI, n10, iLe (by omega) (by omega)]
  have e : (if 10 ≤ S.1 0 then i3 0 else 1) = bI (decide (S.1 0 < 10)) := by
    by_cases q : 10 ≤ S.1 0
    · rw [if_pos q, decide_eq_false (by omega)]; rfl
    · rw [if_neg q, decide_eq_true (by omega)]; rfl
  rw [e, gLtI, c_fr, gClI, gOkE3]
  rfl
theorem rf1 (h : Cx b S D hh m) (hI : Is B S) : fX0_refusalOf b 1 p2 p3 p4 m = some (m, fr3 (hcu S p2 && wi p3 0 6) (wi p4 0 9) true) := by
  unfold fX0_refusalOf
  have K : ∀ x, (gCl (fX5_isWithin p4 0 9 m) fun m24 x25 => gCl (fX0_firstRefusal (bI x) x25 1 m24) fun m27 x28 => gOkE x28 <| some (m27, x28)) = some (m, fr3 x (wi p4 0 9) true) := by
    intro x
    rw [n0, n9, c_in' _ _ _ (by omega) (by omega), gClI, ← bIt, c_fr, gClI, gOkE3]
    rfl
  rw [if_neg (by decide), if_pos rfl, c_has h hI, gClI, gLtI, iB0, c_wk, gClI, iB0]
  cases hcu S p2 with
  | false => exact K false
  | true =>
    cases wi p3 0 6 with
    | false => exact K false
    | true => exact K true
theorem rf2 (h : Cx b S D hh m) (hI : Is B S) : ∃ z : Bool, (∀ c, p2 = i3 c → c < S.1 0 → z = decide (S.2 c 14 < 3)) ∧ fX0_refusalOf b 2 p2 p3 p4 m = some (m, fr3 (hcu S p2) (wi p3 0 999 && wi p4 p3.toInt 999) z) := by
  have hn := hI.1
  unfold fX0_refusalOf
  rw [if_neg (by decide), if_neg (by decide), if_pos rfl, c_has h hI, gClI, n0, n999, c_in' _ _ _ (by omega) (by omega), gClI, gLtI, iB0', c_in, gClI, iB0', i3t (by omega)]
  cases hcp : hcu S p2 with
  | false =>
    refine ⟨false, fun c e hc => ?_, ?_⟩
    · exfalso
      have : hcu S p2 = true := by
        rw [e]
        unfold hcu wi
        rw [i3t (by omega)]
        exact decide_eq_true (by omega)
      rw [this] at hcp
      cases hcp
    · have K : ∀ x, (gCl (fX0_hasCustomer b p2 m) fun m45 x46 => gLt (fun (x48 : Int32) => gCl (fX0_firstRefusal (bI false) (bI x) x48 m45) fun m51 x52 => gOkE x52 <| some (m51, x52)) fun k49 => (if x46 = i3 0 then k49 (i3 0) else gEl 10 p2 fun c56 => gLt (m45 (((b + 11) + 57 + 24 * c56) + 7)) fun x58 => (if 3 ≤ x58 then k49 (i3 0) else k49 1))) = some (m, fr3 false x false) := by
        intro x
        rw [c_has h hI, hcp, gClI, gLtI, iB0']
        simp only [Bool.false_eq_true, if_false]
        rw [← n0, ← bIf, c_fr, gClI, gOkE3]
      cases wi p3 0 999 with
      | false => exact K false
      | true =>
        cases wi p4 p3.toInt 999 with
        | false => exact K false
        | true => exact K true
  | true =>
    obtain ⟨c, e, hc⟩ := hcu_x hcp
    refine ⟨decide (S.2 c 14 < 3), fun c' e' hc' => ?_, ?_⟩
    · rw [e] at e'
      rw [i3e (by omega) (by omega)] at e'
      rw [e']
    · have h14 := (hI.cust hc).2.2.1
      have K : ∀ x, (gCl (fX0_hasCustomer b p2 m) fun m45 x46 => gLt (fun (x48 : Int32) => gCl (fX0_firstRefusal (bI true) (bI x) x48 m45) fun m51 x52 => gOkE x52 <| some (m51, x52)) fun k49 => (if x46 = i3 0 then k49 (i3 0) else gEl 10 p2 fun c56 => gLt (m45 (((b + 11) + 57 + 24 * c56) + 7)) fun x58 => (if 3 ≤ x58 then k49 (i3 0) else k49 1))) = some (m, fr3 true x (decide (S.2 c 14 < 3))) := by
        intro x
        rw [c_has h hI, hcp, gClI, gLtI, iB0', if_pos rfl, e, gEl10 (by omega), (h.c hc).f7, gLtI, n3, iLe (by omega) (by omega)]
        by_cases q : 3 ≤ S.2 c 14
        · rw [if_pos q, decide_eq_false (by omega)]
          exact rfM true x false
        · rw [if_neg q, decide_eq_true (by omega)]
          exact rfM true x true
      cases wi p3 0 999 with
      | false => exact K false
      | true =>
        cases wi p4 p3.toInt 999 with
        | false => exact K false
        | true => exact K true
theorem rfK : ∀ x, (gCl (fX0_firstRefusal (bI x) 1 1 m) fun m89 x90 => gOkE x90 <| some (m89, x90)) = some (m, fr3 x true true) := by
  intro x
  rw [← bIt, c_fr, gClI, gOkE3]
theorem rf3 (h : Cx b S D hh m) (hI : Is B S) : ∃ z : Bool, (∀ c, p2 = i3 c → c < S.1 0 → z = wi p3 0 ((S.2 c 14 : Int) - 1)) ∧ fX0_refusalOf b 3 p2 p3 p4 m = some (m, fr3 (hcu S p2 && z) true true) := by
  have hn := hI.1
  unfold fX0_refusalOf
  rw [if_neg (by decide), if_neg (by decide), if_neg (by decide), if_pos rfl, c_has h hI, gClI, gLtI, iB0]
  cases hcp : hcu S p2 with
  | false =>
    refine ⟨false, fun c e hc => ?_, ?_⟩
    · exfalso
      have : hcu S p2 = true := by
        rw [e]
        unfold hcu wi
        rw [i3t (by omega)]
        exact decide_eq_true (by omega)
      rw [this] at hcp
      cases hcp
    · simp only [Bool.false_eq_true, if_false]
      exact rfK false
  | true =>
    obtain ⟨c, e, hc⟩ := hcu_x hcp
    have h14 := (hI.cust hc).2.2.1
    refine ⟨wi p3 0 ((S.2 c 14 : Int) - 1), fun c' e' hc' => ?_, ?_⟩
    · rw [e] at e'
      rw [i3e (by omega) (by omega)] at e'
      rw [e']
    · rw [if_pos rfl, e, gEl10 (by omega), (h.c hc).f7, gLtI, c_in, gClI, iB0, i3pred (by omega)]
      show (if wi p3 0 ((S.2 c 14 : Int) - 1) = true then _ else _) = _
      cases wi p3 0 ((S.2 c 14 : Int) - 1) with
      | false =>
        exact rfK false
      | true =>
        exact rfK true
theorem rf4 : fX0_refusalOf b 4 p2 p3 p4 m = some (m, fr3 (wi p2 0 3 && wi p3 0 6) true true) := by
  unfold fX0_refusalOf
  rw [if_neg (by decide), if_neg (by decide), if_neg (by decide), if_neg (by decide), if_pos rfl, c_st, gClI, gLtI, iB0, c_wk, gClI, iB0]
  cases wi p2 0 3 with
  | false => exact rfK false
  | true =>
    cases wi p3 0 6 with
    | false => exact rfK false
    | true => exact rfK true
theorem rf5 : fX0_refusalOf b 5 p2 p3 p4 m = some (m, fr3 (wi p2 0 3 && wi p3 0 3) true true) := by
  unfold fX0_refusalOf
  rw [if_neg (by decide), if_neg (by decide), if_neg (by decide), if_neg (by decide), if_neg (by decide), if_pos rfl, c_st, gClI, gLtI, iB0, c_st, gClI, iB0]
  cases wi p2 0 3 with
  | false => exact rfK false
  | true =>
    cases wi p3 0 3 with
    | false => exact rfK false
    | true => exact rfK true
theorem gTdI {β : Type} {f : Nat → Int32} {i : Nat} {k : Int32 → Option β} (hi : i < 5) : gTd f (i3 i) k = k (f i) := by
  unfold gTd
  rw [i3c (by omega), if_neg]
  intro q
  rcases q with q | q
  · exact i3n (by omega) q
  · omega
def seB (p q : Int32) : Bool := wi p 0 4 && (if p = 0 then wi q 0 99 else if p = 1 then wi q 0 9 else if p = 2 then wi q 0 9 else if p = 3 then wi q 0 30 else wi q 1 20)
theorem rf6 : fX0_refusalOf b 6 p2 p3 p4 m = some (m, fr3 true (seB p2 p3) true) := by
  unfold fX0_refusalOf seB
  rw [if_neg (by decide), if_neg (by decide), if_neg (by decide), if_neg (by decide), if_neg (by decide), if_neg (by decide), if_pos rfl, c_se, gClI, gLtI, iB0]
  have K0 : ∀ x, (gCl (fX0_firstRefusal 1 (bI x) 1 m) fun m119 x120 => gOkE x120 <| some (m119, x120)) = some (m, fr3 true x true) := by
    intro x
    rw [← bIt, c_fr, gClI, gOkE3]
  cases hw : wi p2 0 4 with
  | false =>
    simp only [Bool.false_eq_true, if_false, Bool.false_and]
    exact K0 false
  | true =>
    obtain ⟨i, e, h1, h2, h3⟩ := wi_n (a := 0) (b := 4) hw
    rw [if_pos rfl, e]
    have hR : (true && (if i3 i = 0 then wi p3 0 99 else if i3 i = 1 then wi p3 0 9 else if i3 i = 2 then wi p3 0 9 else if i3 i = 3 then wi p3 0 30 else wi p3 1 20)) = wi p3 (gLeast i).toInt (gGreat i).toInt := by
      rcases (show i = 0 ∨ i = 1 ∨ i = 2 ∨ i = 3 ∨ i = 4 by omega) with r | r | r | r | r <;> subst r <;> rfl
    rw [hR, gTdI (by omega), gTdI (by omega), c_in, gClI, iB0]
    cases wi p3 (gLeast i).toInt (gGreat i).toInt with
    | false => exact K0 false
    | true => exact K0 true
theorem rf7 : fX0_refusalOf b 7 p2 p3 p4 m = some (m, fr3 true (wi p2 1 60) true) := by
  unfold fX0_refusalOf
  rw [if_neg (by decide), if_neg (by decide), if_neg (by decide), if_neg (by decide), if_neg (by decide), if_neg (by decide), if_neg (by decide), n1, n60, c_in' _ _ _ (by omega) (by omega), gClI, ← n1, ← bIt, c_fr, gClI, gOkE3]
  rfl
theorem pf_no {k : Int32} {x y z : Bool} (h : fX0_refusalOf b k p2 p3 p4 m = some (m, fr3 x y z)) (hz : fr3 x y z ≠ 20000) : fX0_perform b k p2 p3 p4 m = some (m, -1) := by
  unfold fX0_perform
  rw [h, gClI, gOkE3, if_neg hz]
theorem wiT {n a b : Nat} (hn : n < 2147483648) (h1 : a ≤ n) (h2 : n ≤ b) : wi (i3 n) (a : Int) (b : Int) = true := by
  rw [wiN hn]
  exact decide_eq_true ⟨h1, h2⟩
theorem hcT {c : Nat} (hc : c < S.1 0) (hn : S.1 0 ≤ 10) : hcu S (i3 c) = true := by
  unfold hcu wi
  rw [i3t (by omega)]
  exact decide_eq_true (by omega)
theorem pf0 {st L : Nat} (h : Cb b S D m) (hI : Is B S) (hn : S.1 0 < 10) (hs : st < 4) (hL : L < 10000000) : ∃ m', fX0_perform b 0 (i3 st) (i3 L) p4 m = some (m', i3 (S.1 0)) ∧ Cb b (nwS S st L) (nwD S D) m' ∧ Fr b 308 m m' := by
  have e : fr3 (wi (i3 st) 0 3) (wi (i3 L) 0 9999999) (decide (S.1 0 < 10)) = 20000 := by
    rw [show wi (i3 st) 0 3 = true from wiT (a := 0) (b := 3) (by omega) (by omega) (by omega), show wi (i3 L) 0 9999999 = true from wiT (a := 0) (b := 9999999) (by omega) (by omega) (by omega), decide_eq_true hn]
    rfl
  obtain ⟨m', s1, s2, s3⟩ := c_cust (st := st) h hn hL
  unfold fX0_perform
  rw [rf0 h hI, gClI, gOkE3, e, if_pos rfl, if_pos rfl, s1, gClI]
  exact ⟨m', rfl, s2, s3⟩
theorem pf1 {c w x : Nat} (h : Cb b S D m) (hI : Is B S) (hc : c < S.1 0) (hw : w < 7) (hx : x ≤ 9) : ∃ m', fX0_perform b 1 (i3 c) (i3 w) (i3 x) m = some (m', i3 (S.2 c (1 + w))) ∧ Cb b (cuS S c (up (S.2 c) (1 + w) x)) D m' ∧ Fr b 308 m m' := by
  have hn := hI.1
  have e : fr3 (hcu S (i3 c) && wi (i3 w) 0 6) (wi (i3 x) 0 9) true = 20000 := by
    rw [hcT hc hn, show wi (i3 w) 0 6 = true from wiT (a := 0) (b := 6) (by omega) (by omega) (by omega), show wi (i3 x) 0 9 = true from wiT (a := 0) (b := 9) (by omega) (by omega) (by omega)]
    rfl
  obtain ⟨m', s1, s2, s3⟩ := c_chg (x := x) h hc hn hw
  unfold fX0_perform
  rw [rf1 h hI, gClI, gOkE3, e, if_pos rfl, if_neg (by decide), if_pos rfl, gEl10 (by omega), s1, gClI]
  exact ⟨m', rfl, s2, s3⟩
theorem pf2 {c x y : Nat} (h : Cb b S D m) (hI : Is B S) (hc : c < S.1 0) (h3 : S.2 c 14 < 3) (hx : x ≤ y) (hy : y ≤ 999) : ∃ m', fX0_perform b 2 (i3 c) (i3 x) (i3 y) m = some (m', i3 (S.2 c 14 + 1)) ∧ Cb b (cuS S c (hoR (S.2 c) x y)) D m' ∧ Fr b 308 m m' := by
  have hn := hI.1
  obtain ⟨z, hz, e0⟩ := rf2 (p2 := i3 c) (p3 := i3 x) (p4 := i3 y) h hI
  have e : fr3 (hcu S (i3 c)) (wi (i3 x) 0 999 && wi (i3 y) (i3 x).toInt 999) z = 20000 := by
    rw [hz c rfl hc, hcT hc hn, i3t (by omega), show wi (i3 x) 0 999 = true from wiT (a := 0) (b := 999) (by omega) (by omega) (by omega), show wi (i3 y) (x : Int) 999 = true from wiT (a := x) (b := 999) (by omega) (by omega) (by omega), decide_eq_true h3]
    rfl
  obtain ⟨m', s1, s2, s3⟩ := c_hol (x := x) (y := y) h hc hn h3
  unfold fX0_perform
  rw [e0, gClI, gOkE3, e, if_pos rfl, if_neg (by decide), if_neg (by decide), if_pos rfl, gEl10 (by omega), s1, gClI]
  exact ⟨m', rfl, s2, s3⟩
theorem pf3 {c k : Nat} (h : Cb b S D m) (hI : Is B S) (hc : c < S.1 0) (hk : k < S.2 c 14) : ∃ m', fX0_perform b 3 (i3 c) (i3 k) p4 m = some (m', i3 (S.2 c 14 - 1)) ∧ Cb b (cuS S c (drR (S.2 c) k)) D m' ∧ Fr b 308 m m' := by
  have hn := hI.1
  have h14 := (hI.cust hc).2.2.1
  obtain ⟨z, hz, e0⟩ := rf3 (p2 := i3 c) (p3 := i3 k) (p4 := p4) h hI
  have e : fr3 (hcu S (i3 c) && z) true true = 20000 := by
    have e1 : wi (i3 k) 0 ((S.2 c 14 : Int) - 1) = true := by
      unfold wi
      rw [i3t (by omega)]
      exact decide_eq_true (by omega)
    rw [hz c rfl hc, hcT hc hn, e1]
    rfl
  obtain ⟨m', s1, s2, s3⟩ := c_drop h hc hn h14 hk
  unfold fX0_perform
  rw [e0, gClI, gOkE3, e, if_pos rfl, if_neg (by decide), if_neg (by decide), if_neg (by decide), if_pos rfl, gEl10 (by omega), s1, gClI]
  exact ⟨m', rfl, s2, s3⟩
theorem pf4 {st w v : Nat} (h : Cb b S D m) (hI : Iv B S D) (hs : st < 4) (hw : w < 7) (hp : (if p4 = 1 then (1 : Int32) else 0) = i3 v) (hv : v ≤ 1) : ∃ m', fX0_perform b 4 (i3 st) (i3 w) p4 m = some (m', i3 (sm (fun k => (sH S (20 + 7 * st + w) v).1 (20 + 7 * st + k)) 7)) ∧ Cb b (sH S (20 + 7 * st + w) v) D m' ∧ Fr b 308 m m' := by
  have e : fr3 (wi (i3 st) 0 3 && wi (i3 w) 0 6) true true = 20000 := by
    rw [show wi (i3 st) 0 3 = true from wiT (a := 0) (b := 3) (by omega) (by omega) (by omega), show wi (i3 w) 0 6 = true from wiT (a := 0) (b := 6) (by omega) (by omega) (by omega)]
    rfl
  obtain ⟨m', s1, s2, s3⟩ := c_close h hI hs hw hv
  unfold fX0_perform
  rw [rf4, gClI, gOkE3, e, if_pos rfl, if_neg (by decide), if_neg (by decide), if_neg (by decide), if_neg (by decide), if_pos rfl, hp, gLtI, s1, gClI]
  exact ⟨m', rfl, s2, s3⟩
theorem pf5 {s t : Nat} (h : Cb b S D m) (hI : Is B S) (hs : s < 4) (ht : t < 4) : ∃ m', fX0_perform b 5 (i3 s) (i3 t) p4 m = some (m', i3 (plc S t)) ∧ Cb b (swS S s t) D m' ∧ Fr b 308 m m' := by
  have e : fr3 (wi (i3 s) 0 3 && wi (i3 t) 0 3) true true = 20000 := by
    rw [show wi (i3 s) 0 3 = true from wiT (a := 0) (b := 3) (by omega) (by omega) (by omega), show wi (i3 t) 0 3 = true from wiT (a := 0) (b := 3) (by omega) (by omega) (by omega)]
    rfl
  obtain ⟨m', s1, s2, s3⟩ := c_swap h hI hs ht
  unfold fX0_perform
  rw [rf5, gClI, gOkE3, e, if_pos rfl, if_neg (by decide), if_neg (by decide), if_neg (by decide), if_neg (by decide), if_neg (by decide), if_pos rfl, s1, gClI]
  exact ⟨m', rfl, s2, s3⟩
theorem seT {i x : Nat} (h : stOk i x) : seB (i3 i) (i3 x) = true := by
  unfold seB
  rcases h with ⟨q, r⟩ | ⟨q, r⟩ | ⟨q, r⟩ | ⟨q, r⟩ | ⟨q, r⟩ <;> subst q
  · exact wiT (a := 0) (b := 99) (by omega) (by omega) (by omega)
  · exact wiT (a := 0) (b := 9) (by omega) (by omega) (by omega)
  · exact wiT (a := 0) (b := 9) (by omega) (by omega) (by omega)
  · exact wiT (a := 0) (b := 30) (by omega) (by omega) (by omega)
  · exact wiT (a := 1) (b := 20) (by omega) (by omega) (by omega)
theorem seX {p q : Int32} (h : seB p q = true) : ∃ i x, p = i3 i ∧ q = i3 x ∧ stOk i x := by
  unfold seB at h
  rw [Bool.and_eq_true] at h
  obtain ⟨h0, h5⟩ := h
  obtain ⟨i, e, h1, h2, h3⟩ := wi_n (a := 0) (b := 4) h0
  subst e
  rcases (show i = 0 ∨ i = 1 ∨ i = 2 ∨ i = 3 ∨ i = 4 by omega) with r | r | r | r | r <;> subst r
  · obtain ⟨x, e, k1, k2, k3⟩ := wi_n (a := 0) (b := 99) h5
    exact ⟨0, x, rfl, e, Or.inl ⟨rfl, k2⟩⟩
  · obtain ⟨x, e, k1, k2, k3⟩ := wi_n (a := 0) (b := 9) h5
    exact ⟨1, x, rfl, e, Or.inr (Or.inl ⟨rfl, k2⟩)⟩
  · obtain ⟨x, e, k1, k2, k3⟩ := wi_n (a := 0) (b := 9) h5
    exact ⟨2, x, rfl, e, Or.inr (Or.inr (Or.inl ⟨rfl, k2⟩))⟩
  · obtain ⟨x, e, k1, k2, k3⟩ := wi_n (a := 0) (b := 30) h5
    exact ⟨3, x, rfl, e, Or.inr (Or.inr (Or.inr (Or.inl ⟨rfl, k2⟩)))⟩
  · obtain ⟨x, e, k1, k2, k3⟩ := wi_n (a := 1) (b := 20) h5
    exact ⟨4, x, rfl, e, Or.inr (Or.inr (Or.inr (Or.inr ⟨rfl, k1, k2⟩)))⟩
theorem stOk_i {i x : Nat} (h : stOk i x) : i < 5 := by
  unfold stOk at h
  omega
theorem pf6 {i x : Nat} (h : Cb b S D m) (hx : stOk i x) : ∃ m', fX0_perform b 6 (i3 i) (i3 x) p4 m = some (m', i3 (S.1 (11 + i))) ∧ Cb b (sH S (11 + i) x) D m' ∧ Fr b 308 m m' := by
  have e : fr3 true (seB (i3 i) (i3 x)) true = 20000 := by
    rw [seT hx]
    rfl
  obtain ⟨m', s1, s2, s3⟩ := c_put (x := x) h (stOk_i hx)
  unfold fX0_perform
  rw [rf6, gClI, gOkE3, e, if_pos rfl, if_neg (by decide), if_neg (by decide), if_neg (by decide), if_neg (by decide), if_neg (by decide), if_neg (by decide), if_pos rfl, s1, gClI]
  exact ⟨m', rfl, s2, s3⟩
theorem pf7 {p : Nat} (h : Cb b S D m) (hI : Iv B S D) (hB : B + 1000 < 1000000) (h1 : 1 ≤ p) (h2 : p ≤ 60) : ∃ m', fX0_perform b 7 (i3 p) p3 p4 m = some (m', i3 ((daysZ p (S, D)).2.1 3 + (daysZ p (S, D)).2.1 4) - i3 (D.1 3 + D.1 4)) ∧ Cb b (daysZ p (S, D)).1 (daysZ p (S, D)).2 m' ∧ Fr b 308 m m' := by
  have e : fr3 true (wi (i3 p) 1 60) true = 20000 := by
    rw [show wi (i3 p) 1 60 = true from wiT (a := 1) (b := 60) (by omega) (by omega) (by omega)]
    rfl
  obtain ⟨m', s1, s2, s3⟩ := c_days h hI hB (p := p) (by omega)
  unfold fX0_perform
  rw [rf7, gClI, gOkE3, e, if_pos rfl, if_neg (by decide), if_neg (by decide), if_neg (by decide), if_neg (by decide), if_neg (by decide), if_neg (by decide), if_neg (by decide), s1, gClI]
  exact ⟨m', rfl, s2, s3⟩
end RF
