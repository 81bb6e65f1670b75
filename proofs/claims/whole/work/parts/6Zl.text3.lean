/-! the text: what its commands do -/
def Ta (B' : Nat) (S D : gB) (C : gM → Option (gM × Int32)) (R : (Int32 → gM → Option (gM × Int32)) → gM → Option (gM × Int32)) : Prop := ∃ (S' D' : gB) (w : Bool), Iv B' S' D' ∧ (∀ m, Cb 128 S D m → ∃ m' x, C m = some (m', x) ∧ (x = -1 ↔ w = false) ∧ Cb 128 S' D' m' ∧ Fr 128 308 m m') ∧ (∀ m, Mr 6082 S D m → ∃ m', Mr 6082 S' D' m' ∧ Fr 6082 258 m m' ∧ ∀ K, R K m = K (bI w) m')
theorem ta_no {B B' : Nat} {S D : gB} {C : gM → Option (gM × Int32)} {R : (Int32 → gM → Option (gM × Int32)) → gM → Option (gM × Int32)} (hI : Iv B S D) (hb : B ≤ B') (h1 : ∀ m, Cb 128 S D m → C m = some (m, -1)) (h2 : ∀ m, Mr 6082 S D m → ∀ K, R K m = K 0 m) : Ta B' S D C R :=
  ⟨S, D, false, hI.le hb, fun m h => ⟨m, -1, h1 m h, ⟨fun _ => rfl, fun _ => rfl⟩, h, Fr.rf⟩, fun m h => ⟨m, h, Fr.rf, h2 m h⟩⟩
theorem aX {x : Nat} (hx : x < 1000000) : (i3 x = -1 ↔ true = false) := ⟨fun h => absurd h (i3nm hx), fun h => absurd h (by decide)⟩
theorem kX {x : Nat} (hx : x < 1000000) {K : Int32 → gM → Option (gM × Int32)} {m' : gM} : (if i3 x < 0 then K 0 m' else K 1 m') = K (bI true) m' := by
  rw [if_neg (i3n (by omega))]
  rfl
theorem kY {x : Nat} (hx : x < 1000000) {K : Int32 → gM → Option (gM × Int32)} {m' : gM} : (gLt ((if i3 x < 0 then 0 else 1) : Int32) fun x23 => K x23 m') = K (bI true) m' := by
  rw [if_neg (i3n (by omega))]
  rfl
theorem ta_c {B st L : Nat} {S D : gB} (hI : Iv B S D) (hs : st < 4) (hL : L < 10000000) : Ta (B + 60) S D (fX0_perform 128 0 (i3 st) (i3 L) 0) (fun K m => gRd m 6082 258 0 fun x7 => (if 10 ≤ x7 then K 0 m else gCl (fX6_customerOn 6082 258 (i3 st) (i3 L) m) fun m15 x16 => (if x16 < 0 then K 0 m15 else K 1 m15))) := by
  have hn0 := hI.1.1
  have r0 : ∀ (m : gM) (K : Int32 → gM → Option (gM × Int32)), Mr 6082 S D m → (gRd m 6082 258 0 fun x7 => (if 10 ≤ x7 then K 0 m else gCl (fX6_customerOn 6082 258 (i3 st) (i3 L) m) fun m15 x16 => (if x16 < 0 then K 0 m15 else K 1 m15))) = (if 10 ≤ S.1 0 then K 0 m else gCl (fX6_customerOn 6082 258 (i3 st) (i3 L) m) fun m15 x16 => (if x16 < 0 then K 0 m15 else K 1 m15)) := fun m K h => by
    rw [show gRd m 6082 258 0 (fun x7 => (if 10 ≤ x7 then K 0 m else gCl (fX6_customerOn 6082 258 (i3 st) (i3 L) m) fun m15 x16 => (if x16 < 0 then K 0 m15 else K 1 m15))) = gRd m 6082 258 (i3 0) (fun x7 => (if 10 ≤ x7 then K 0 m else gCl (fX6_customerOn 6082 258 (i3 st) (i3 L) m) fun m15 x16 => (if x16 < 0 then K 0 m15 else K 1 m15))) from rfl, m_rS h (by omega) (by omega), n10, iLe (by omega) (by omega)]
  by_cases h10 : S.1 0 < 10
  · refine ⟨nwS S st L, nwD S D, true, (hI.nw h10 (by omega)).le (by omega), fun m h => ?_, fun m h => ?_⟩
    · obtain ⟨m', s1, s2, s3⟩ := pf0 (p4 := 0) h hI.1 h10 hs hL
      exact ⟨m', _, s1, aX (by omega), s2, s3⟩
    · obtain ⟨m', s1, s2, s3⟩ := m_cust (B := 0) (st := st) (L := L) h h10 hL
      refine ⟨m', s2, s3, fun K => ?_⟩
      show (gRd m 6082 258 0 fun x7 => _) = _
      rw [r0 m K h, if_neg (by omega), s1, gClI]
      exact kX (by omega)
  · refine ta_no hI (by omega) (fun m h => ?_) (fun m h K => ?_)
    · have e := rf0 (p2 := i3 st) (p3 := i3 L) (p4 := 0) h hI.1
      refine pf_no e ?_
      rw [decide_eq_false h10]
      cases wi (i3 st) 0 3 <;> cases wi (i3 L) 0 9999999 <;> decide
    · show (gRd m 6082 258 0 fun x7 => _) = _
      rw [r0 m K h, if_pos (by omega)]
theorem ta_n {B c w x : Nat} {S D : gB} (hI : Iv B S D) (hc : c < 10) (hw : w < 7) (hx : x ≤ 9) : Ta (B + 60) S D (fX0_perform 128 1 (i3 c) (i3 w) (i3 x)) (fun K m => gCl (fX6_isCustomer 6082 258 (i3 c) m) fun m10 x11 => (if x11 = 0 then K 0 m10 else gCl (fX6_changeOn 6082 258 (i3 c) (i3 w) (i3 x) m10) fun m20 x21 => (if x21 < 0 then K 0 m20 else K 1 m20))) := by
  have hn0 := hI.1.1
  by_cases hs : c < S.1 0
  · have h9 := (hI.1.cust hs).2.1 w hw
    refine ⟨_, D, true, (hI.wk hs hx hw).le (by omega), fun m h => ?_, fun m h => ?_⟩
    · obtain ⟨m', s1, s2, s3⟩ := pf1 h hI.1 hs hw hx
      exact ⟨m', _, s1, aX (by omega), s2, s3⟩
    · obtain ⟨m', s1, s2, s3⟩ := m_chg (x := x) h hc hw
      refine ⟨m', s2, s3, fun K => ?_⟩
      dsimp only
      rw [m_has h hI.1, gClI, hcT hs hn0, if_neg (by decide), s1, gClI]
      exact kX (by omega)
  · refine ta_no hI (by omega) (fun m h => ?_) (fun m h K => ?_)
    · have e := rf1 (p2 := i3 c) (p3 := i3 w) (p4 := i3 x) h hI.1
      refine pf_no e ?_
      rw [hcF hs (by omega), Bool.false_and]
      exact show 20001 ≠ 20000 by decide
    · rw [m_has h hI.1, gClI, hcF hs (by omega), if_pos bIf]
theorem ta_h {B c x y : Nat} {S D : gB} (hI : Iv B S D) (hc : c < 10) (hx : x < 100) (hy : y < 100) : Ta (B + 60) S D (fX0_perform 128 2 (i3 c) (i3 x) (i3 y)) (fun K m => gCl (fX6_isCustomer 6082 258 (i3 c) m) fun m10 x11 => (if x11 = 0 then K 0 m10 else (if i3 y < i3 x then K 0 m10 else gCl (fX6_of 6082 258 (i3 c) 14 m10) fun m20 x21 => (if 3 ≤ x21 then K 0 m20 else gCl (fX6_holidayOn 6082 258 (i3 c) (i3 x) (i3 y) m20) fun m23 x24 => (if x24 ≤ 0 then K 0 m23 else K 1 m23))))) := by
  have hn0 := hI.1.1
  by_cases hs : c < S.1 0
  · have hCU := hI.1.cust hs
    by_cases hp : x ≤ y
    · by_cases h3 : S.2 c 14 < 3
      · refine ⟨_, D, true, (hI.cu (c := c) (hoR_s (x := x) (y := y) hCU h3 (by omega) (by omega))).le (by omega), fun m h => ?_, fun m h => ?_⟩
        · obtain ⟨m', s1, s2, s3⟩ := pf2 (x := x) (y := y) h hI.1 hs h3 (by omega) (by omega)
          exact ⟨m', _, s1, aX (by omega), s2, s3⟩
        · obtain ⟨m', s1, s2, s3⟩ := m_hol (B := 0) (c := c) (x := x) (y := y) h (by omega) h3
          refine ⟨m', s2, s3, fun K => ?_⟩
          dsimp only
          rw [m_has h hI.1, gClI, hcT hs hn0, if_neg (by decide), iLt (by omega) (by omega), if_neg (by omega), n14, m_ofS h (by omega) (by omega) (by omega), gClI, n3, iLe (by omega) (by omega), if_neg (by omega), s1, gClI, if_neg (i3u (by omega) (by omega))]
          rfl
      · refine ta_no hI (by omega) (fun m h => ?_) (fun m h K => ?_)
        · obtain ⟨z, hz, e⟩ := rf2 (p2 := i3 c) (p3 := i3 x) (p4 := i3 y) h hI.1
          refine pf_no e ?_
          rw [hz _ rfl hs, decide_eq_false h3]
          cases hcu S (i3 c) <;> cases (wi (i3 x) 0 999 && wi (i3 y) (i3 x).toInt 999) <;> decide
        · rw [m_has h hI.1, gClI, hcT hs hn0, if_neg (by decide), iLt (by omega) (by omega), if_neg (by omega), n14, m_ofS h (by omega) (by omega) (by omega), gClI, n3, iLe (by omega) (by omega), if_pos (by omega)]
    · refine ta_no hI (by omega) (fun m h => ?_) (fun m h K => ?_)
      · obtain ⟨z, hz, e⟩ := rf2 (p2 := i3 c) (p3 := i3 x) (p4 := i3 y) h hI.1
        refine pf_no e ?_
        rw [i3t (by omega), show wi (i3 y) (x : Int) 999 = false from wiF (a := x) (b := 999) (by omega) (by omega), Bool.and_false]
        cases hcu S (i3 c) <;> cases z <;> decide
      · rw [m_has h hI.1, gClI, hcT hs hn0, if_neg (by decide), iLt (by omega) (by omega), if_pos (by omega)]
  · refine ta_no hI (by omega) (fun m h => ?_) (fun m h K => ?_)
    · obtain ⟨z, hz, e⟩ := rf2 (p2 := i3 c) (p3 := i3 x) (p4 := i3 y) h hI.1
      refine pf_no e ?_
      rw [hcF hs (by omega)]
      exact show 20001 ≠ 20000 by decide
    · rw [m_has h hI.1, gClI, hcF hs (by omega), if_pos bIf]
theorem ta_x {B st w v : Nat} {S D : gB} (hI : Iv B S D) (hs : st < 4) (hw : w < 7) (hv : v ≤ 1) : Ta (B + 60) S D (fX0_perform 128 4 (i3 st) (i3 w) (i3 v)) (fun K m => gCl (fX6_closeOn 6082 258 (i3 st) (i3 w) (i3 v) m) fun m20 x21 => gLt ((if x21 < 0 then 0 else 1) : Int32) fun x23 => K x23 m20) := by
  have hv3 : (if i3 v = 0 then (0 : Int32) else 1) = i3 v := by
    rcases (show v = 0 ∨ v = 1 by omega) with t | t <;> subst t <;> rfl
  have hv4 : (if i3 v = 1 then (1 : Int32) else 0) = i3 v := by
    rcases (show v = 0 ∨ v = 1 by omega) with t | t <;> subst t <;> rfl
  have hS := hI.sh (v := v) hs hw hv
  have hsum := sm_le (f := fun k => (sH S (20 + 7 * st + w) v).1 (20 + 7 * st + k)) (b := 1) (n := 7) (fun i hi => by
    have := hS.1.2.2.2.2.1 (7 * st + i) (by omega)
    rw [← Nat.add_assoc] at this
    exact this)
  refine ⟨_, D, true, hS.le (by omega), fun m h => ?_, fun m h => ?_⟩
  · obtain ⟨m', s1, s2, s3⟩ := pf4 h hI hs hw hv4 hv
    exact ⟨m', _, s1, aX (by omega), s2, s3⟩
  · obtain ⟨m', s1, s2, s3⟩ := m_close (B := 0) h hs hw hv3
    refine ⟨m', s2, s3, fun K => ?_⟩
    dsimp only
    rw [s1, gClI]
    exact kY (by omega)
theorem ta_v {B s t : Nat} {S D : gB} (hI : Iv B S D) (hs : s < 4) (ht : t < 4) : Ta (B + 60) S D (fX0_perform 128 5 (i3 s) (i3 t) 0) (fun K m => gCl (fX6_swapOn 6082 258 (i3 s) (i3 t) m) fun m20 x21 => gLt ((if x21 < 0 then 0 else 1) : Int32) fun x23 => K x23 m20) := by
  have p1 := (plc_ok hI.1 ht).1
  refine ⟨_, D, true, (hI.sw hs ht).le (by omega), fun m h => ?_, fun m h => ?_⟩
  · obtain ⟨m', s1, s2, s3⟩ := pf5 (p4 := 0) h hI.1 hs ht
    exact ⟨m', _, s1, aX (by omega), s2, s3⟩
  · obtain ⟨m', s1, s2, s3⟩ := m_swap h hI.1 hs ht
    refine ⟨m', s2, s3, fun K => ?_⟩
    dsimp only
    rw [s1, gClI]
    exact kY (by omega)
theorem ta_s {B i x : Nat} {S D : gB} (hI : Iv B S D) (hi : i < 5) (hx : x < 100) : Ta (B + 60) S D (fX0_perform 128 6 (i3 i) (i3 x) 0) (fun K m => gCl (fX6_isSetting (i3 i) (i3 x) m) fun m74 x75 => (if x75 = 0 then K 0 m74 else gCl (fX6_put 6082 258 (11 + i3 i) (i3 x) m74) fun m84 x85 => (if x85 < 0 then K 0 m84 else K 1 m84))) := by
  cases hs : seB (i3 i) (i3 x) with
  | true =>
    obtain ⟨i', x', q1, q2, ho⟩ := seX hs
    have hi' := stOk_i ho
    have hx' : x' ≤ 99 := by unfold stOk at ho; omega
    rw [i3e (by omega) (by omega)] at q1 q2
    subst q1
    subst q2
    have hold : S.1 (11 + i) < 1000000 := by
      have h2 := hI.1.2.2.1
      rcases (show i = 0 ∨ i = 1 ∨ i = 2 ∨ i = 3 ∨ i = 4 by omega) with t | t | t | t | t <;> subst t <;> simp <;> omega
    refine ⟨_, D, true, (hI.st ho).le (by omega), fun m h => ?_, fun m h => ?_⟩
    · obtain ⟨m', s1, s2, s3⟩ := pf6 (p4 := 0) h ho
      exact ⟨m', _, s1, aX hold, s2, s3⟩
    · obtain ⟨m', s1, s2, s3⟩ := m_put (i := i) (x := x) h (by omega)
      refine ⟨m', s2, s3, fun K => ?_⟩
      dsimp only
      rw [m_se, gClI, hs, if_neg (by decide), s1, gClI]
      exact kX hold
  | false =>
    refine ta_no hI (by omega) (fun m h => ?_) (fun m h K => ?_)
    · have e := rf6 (b := 128) (p2 := i3 i) (p3 := i3 x) (p4 := 0) (m := m)
      refine pf_no e ?_
      rw [hs]
      exact show 20002 ≠ 20000 by decide
    · rw [m_se, gClI, hs, if_pos bIf]
theorem ta_d {B a : Nat} {S D : gB} (hI : Iv B S D) (hB : B < 100000) (h1 : 1 ≤ a) (h2 : a ≤ 60) : Ta (B + 60) S D (fX0_perform 128 7 (i3 a) 0 0) (fun K m => gCl (fX6_daysOn 6082 258 (i3 a) m) fun m14 x15 => gLt ((if x15 < 0 then 0 else 1) : Int32) fun x17 => K x17 m14) := by
  obtain ⟨hv, hT1, hT2⟩ := hI.days a
  have e0 : i3 ((daysZ a (S, D)).2.1 3 + (daysZ a (S, D)).2.1 4) - i3 (D.1 3 + D.1 4) = i3 ((daysZ a (S, D)).2.1 3 + (daysZ a (S, D)).2.1 4 - (D.1 3 + D.1 4)) := i3s hT1
  refine ⟨_, _, true, hv.le (by omega), fun m h => ?_, fun m h => ?_⟩
  · obtain ⟨m', s1, s2, s3⟩ := pf7 (p3 := 0) (p4 := 0) (p := a) h hI (by omega) h1 h2
    rw [e0] at s1
    exact ⟨m', _, s1, aX (by omega), s2, s3⟩
  · obtain ⟨m', s1, s2, s3⟩ := m_days (p := a) h hI (by omega) (by omega)
    rw [e0] at s1
    refine ⟨m', s2, s3, fun K => ?_⟩
    dsimp only
    rw [s1, gClI]
    exact kY (by omega)
