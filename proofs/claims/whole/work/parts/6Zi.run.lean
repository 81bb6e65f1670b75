/-! runScript -/
def j6 (n : Nat) : Int64 := Int64.ofNat n
def pw : Nat → Int64
  | 0 => 1
  | k + 1 => pw k * 1000000
def pn : Nat → Nat
  | 0 => 1
  | k + 1 => pn k * 1000000
theorem pw_n : ∀ k, pw k = j6 (pn k)
  | 0 => rfl
  | k + 1 => by
    show pw k * j6 1000000 = j6 (pn k * 1000000)
    rw [pw_n k]
    exact (Int64.ofNat_mul _ _).symm
theorem pn_b {k : Nat} (hk : k ≤ 3) : 1 ≤ pn k ∧ pn k ≤ 1000000000000000000 := by
  rcases (show k = 0 ∨ k = 1 ∨ k = 2 ∨ k = 3 by omega) with q | q | q | q <;> subst q <;> decide
theorem j6d {a b : Nat} (ha : a < 9223372036854775808) (hb : b < 9223372036854775808) : j6 a / j6 b = j6 (a / b) := (Int64.ofNat_div ha hb).symm
theorem j6r {a b : Nat} (ha : a < 9223372036854775808) (hb : b < 9223372036854775808) : j6 a - j6 a / j6 b * j6 b = j6 (a % b) := by
  rw [j6d ha hb, Nat.mod_def, Nat.mul_comm b]
  unfold j6
  rw [Int64.ofNat_sub _ _ (Nat.div_mul_le_self a b), Int64.ofNat_mul]
theorem pw_d {j : Nat} (hj : j ≤ 2) : pw (j + 1) / 1000000 = pw j := by
  have h1 := pn_b (k := j) (by omega)
  have h2 := pn_b (k := j + 1) (by omega)
  rw [pw_n, pw_n, show (1000000 : Int64) = j6 1000000 from rfl, j6d (by omega) (by omega), show pn (j + 1) = pn j * 1000000 from rfl, Nat.mul_div_cancel _ (by omega)]
theorem j6i {a : Nat} (ha : a < 9223372036854775808) : (j6 a).toInt = a := Int64.toInt_ofNat_of_lt ha
theorem pw_0 {j : Nat} (hj : j ≤ 3) : ¬ pw j = 0 := by
  have h1 := pn_b hj
  intro e
  have h := congrArg Int64.toInt e
  rw [pw_n, j6i (by omega)] at h
  have h0 : (0 : Int64).toInt = 0 := by decide
  omega
theorem grp {Z j : Nat} (hZ : Z < 9223372036854775808) (hj : j ≤ 2) : ((j6 Z / pw j) - (j6 Z / pw j) / 1000000 * 1000000).toInt32 = i3 (Z / pn j % 1000000) := by
  have h1 := pn_b (k := j) (by omega)
  have h2 : Z / pn j ≤ Z := Nat.div_le_self _ _
  rw [pw_n, j6d hZ (by omega), show (1000000 : Int64) = j6 1000000 from rfl, j6r (by omega) (by omega)]
  unfold j6 i3
  exact Int64.toInt32_ofNat'
theorem gof {Z j : Nat} {m : gM} (hZ : Z < 9223372036854775808) : ∀ (f i k : Nat), k + i = j → j ≤ 2 → i < f → fX5_groupOf_L5 (i3 j) f (j6 (Z / pn k)) (i3 k) m = some (m, i3 (Z / pn j % 1000000)) := by
  intro f
  induction f with
  | zero => intro i k h1 h0 h2; omega
  | succ f ih =>
    intro i k h1 h0 h2
    have h3 : Z / pn k ≤ Z := Nat.div_le_self _ _
    unfold fX5_groupOf_L5
    rw [iLe (by omega) (by omega)]
    cases i with
    | zero =>
      have e : k = j := by omega
      subst e
      rw [if_pos (by omega), show (1000000 : Int64) = j6 1000000 from rfl, j6r (by omega) (by omega)]
      unfold j6 i3
      rw [Int64.toInt32_ofNat']
    | succ i =>
      rw [if_neg (by omega), gLtI, n1, i3a, show (1000000 : Int64) = j6 1000000 from rfl, j6d (by omega) (by omega), Nat.div_div_eq_div_mul]
      exact ih i (k + 1) (by omega) h0 (by omega)
theorem gofC {Z j : Nat} {m : gM} (hZ : Z < 9223372036854775808) (hj : j ≤ 2) : fX5_groupOf (j6 Z) (i3 j) m = some (m, i3 (Z / pn j % 1000000)) := by
  have h := gof (m := m) hZ gFU j 0 (Nat.zero_add j) hj (by show j < 5000; omega)
  rw [show Z / pn 0 = Z from Nat.div_one Z] at h
  exact h
def okS (z : Int64) (p : Nat) : Bool := decide (0 ≤ z.toInt ∧ z.toInt < (pn p : Int))
theorem okS_x {z : Int64} {p : Nat} (h : okS z p = true) : ∃ Z, z = j6 Z ∧ Z < pn p := by
  have h1 := of_decide_eq_true h
  have h2 := Int64.toInt_lt z
  refine ⟨z.toInt.toNat, ?_, by omega⟩
  apply Int64.toInt_inj.mp
  rw [j6i (by omega)]
  omega
theorem oSC {z : Int64} {p : Nat} (hp : p ≤ 3) : ((if (lg_cmp z 0) < 0 then 0 else (if 0 ≤ (lg_cmp z (pw p)) then 0 else 1)) : Int32) = bI (okS z p) := by
  have h1 := pn_b hp
  have h0 : (0 : Int64).toInt = 0 := by decide
  have h2 : (pw p).toInt = pn p := by rw [pw_n, j6i (by omega)]
  simp only [lg_cmp_lt, lg_cmp_ge, Int64.lt_iff_toInt_lt, Int64.le_iff_toInt_le, h0, h2]
  unfold okS
  by_cases c1 : z.toInt < 0
  · rw [if_pos c1, decide_eq_false (by omega)]
    rfl
  · rw [if_neg c1]
    by_cases c2 : (pn p : Int) ≤ z.toInt
    · rw [if_pos c2, decide_eq_false (by omega)]
      rfl
    · rw [if_neg c2, decide_eq_true (by omega)]
      rfl
theorem oSM {z : Int64} {p : Nat} (hp : p ≤ 3) (m : gM) : fX6_in z 0 (pw p - 1) m = some (m, bI (okS z p)) := by
  have h1 := pn_b hp
  have h0 : (0 : Int64).toInt = 0 := by decide
  have h2 : (pw p - 1).toInt = pn p - 1 := by
    rw [pw_n, show j6 (pn p) - 1 = j6 (pn p - 1) from (Int64.ofNat_sub _ _ h1.1).symm, j6i (by omega)]
    omega
  rw [m_in, h0, h2]
  unfold okS
  by_cases c : 0 ≤ z.toInt ∧ z.toInt < (pn p : Int)
  · rw [decide_eq_true c, decide_eq_true (by omega)]
  · rw [decide_eq_false c, decide_eq_false (by omega)]
theorem gDlI {β : Type} {y : Int64} {k : Option β} (h : ¬ y = 0) : gDl y k = k := if_neg h
theorem scrL {B p Z : Nat} {rC : Int64 → Int32 → gM → Option (gM × Nat × Int32)} {rM : Int64 → Int32 → gM → Option (gM × Int32)} (hB : B + 200 < 100000) (hp : p ≤ 3) (hZ : Z < 9223372036854775808) : ∀ (f j k : Nat) (S D : gB), k + j = p → j < f → Iv (B + 60 * k) S D → ∃ S' D' v, Iv (B + 60 * p) S' D' ∧ (∀ m, Cb 436 S D m → ∃ m', fX5_runScript_L70 (i3 p) (j6 Z) rC f (i3 k) m = some (m', 0, v) ∧ Cb 436 S' D' m' ∧ Fr 436 308 m m') ∧ (∀ m, Mr 6082 S D m → ∃ m', fX6_runScript_L86 (i3 p) (j6 Z) rM f (pw j) (i3 k) m = some (m', v) ∧ Mr 6082 S' D' m' ∧ Fr 6082 258 m m') := by
  intro f
  induction f with
  | zero => intro j k S D h1 h2; omega
  | succ f ih =>
    intro j k S D h1 h2 hI
    cases j with
    | zero =>
      have e : k = p := by omega
      subst e
      refine ⟨S, D, -1, hI, fun m h => ⟨m, ?_, h, Fr.rf⟩, fun m h => ⟨m, ?_, h, Fr.rf⟩⟩
      · unfold fX5_runScript_L70
        rw [iLe (by omega) (by omega), if_pos (by omega)]
      · unfold fX6_runScript_L86
        rw [iLe (by omega) (by omega), if_pos (by omega)]
    | succ j =>
      have hj : j ≤ 2 := by omega
      have e0 := pw_d hj
      have e1 := pw_0 (j := j) (by omega)
      have e2 := grp hZ hj
      have e4 : i3 p - 1 - i3 k = i3 j := by
        rw [n1, i3s (by omega), i3s (by omega), show p - 1 - k = j from by omega]
      obtain ⟨n, hn⟩ : ∃ n, n = Z / pn j % 1000000 := ⟨_, rfl⟩
      have hn2 : n < 1000000 := by omega
      rw [← hn] at e2
      obtain ⟨S1, D1, v, w1, c1, r1⟩ := tb hI (by omega) hn2
      cases v with
      | false =>
        refine ⟨S1, D1, i3 k, w1.le (by omega), fun m h => ?_, fun m h => ?_⟩
        · obtain ⟨m1, a1, a2, a3⟩ := c1 m h
          refine ⟨m1, ?_, a2, a3⟩
          unfold fX5_runScript_L70
          rw [iLe (by omega) (by omega), if_neg (by omega), e4, gofC hZ hj, gClI, ← hn, a1, gClI, if_pos bIf]
        · obtain ⟨m1, a1, a2, a3⟩ := r1 m h
          refine ⟨m1, ?_, a2, a3⟩
          unfold fX6_runScript_L86
          rw [iLe (by omega) (by omega), if_neg (by omega), e0, gDlI e1, gLtI, e2, n100000, i3d (by omega) (by omega), i3m, i3s (Nat.div_mul_le_self _ _), show n - n / 100000 * 100000 = n % 100000 from by omega, a1, gClI, if_pos bIf]
      | true =>
        obtain ⟨S2, D2, v, w2, c2, r2⟩ := ih j (k + 1) S1 D1 (by omega) (by omega) (w1.le (by omega))
        refine ⟨S2, D2, v, w2, fun m h => ?_, fun m h => ?_⟩
        · obtain ⟨m1, a1, a2, a3⟩ := c1 m h
          obtain ⟨m2, b1, b2, b3⟩ := c2 m1 a2
          refine ⟨m2, ?_, b2, a3.tr b3⟩
          unfold fX5_runScript_L70
          rw [iLe (by omega) (by omega), if_neg (by omega), e4, gofC hZ hj, gClI, ← hn, a1, gClI, if_neg (by decide), gLtI, n1, i3a]
          exact b1
        · obtain ⟨m1, a1, a2, a3⟩ := r1 m h
          obtain ⟨m2, b1, b2, b3⟩ := r2 m1 a2
          refine ⟨m2, ?_, b2, a3.tr b3⟩
          unfold fX6_runScript_L86
          rw [iLe (by omega) (by omega), if_neg (by omega), e0, gDlI e1, gLtI, e2, n100000, i3d (by omega) (by omega), i3m, i3s (Nat.div_mul_le_self _ _), show n - n / 100000 * 100000 = n % 100000 from by omega, a1, gClI, if_neg (by decide), gLtI, n1, i3a]
          exact b1
theorem rsC {p : Nat} {z : Int64} {m : gM} (hp : p ≤ 3) : ∀ (f j k : Nat), k + j = p → j < f → ∃ r, fX5_runScript_L15 (i3 p) z f (pw k) (i3 k) m = gDem 2 (bI (okS z p)) m (gCv (fX0_copyFrom 436 128 m) fun m12 => fX5_runScript_L70 (i3 p) z r gFU 0 m12) := by
  intro f
  induction f with
  | zero => intro j k h1 h2; omega
  | succ f ih =>
    intro j k h1 h2
    unfold fX5_runScript_L15
    rw [iLe (by omega) (by omega)]
    cases j with
    | zero =>
      have e : k = p := by omega
      subst e
      rw [if_pos (by omega), gLtI, oSC hp]
      exact ⟨_, rfl⟩
    | succ j =>
      rw [if_neg (by omega), gLtI, n1, i3a]
      exact ih j (k + 1) (by omega) (by omega)
theorem rsM {p : Nat} {z : Int64} {m : gM} (hq : 1 ≤ p) (hp : p ≤ 3) : ∀ (f j k : Nat), k + j = p → j < f → ∃ r, fX6_runScript_L6 (i3 p) z f (pw k) (i3 k) m = (if okS z p = true then gCv (fX6_copyState 5824 258 0 6082 258 0 (upd m (5693 + 0) 0)) fun m13 => fX6_runScript_L86 (i3 p) z r gFU (pw p) 0 m13 else some (upd m (5693 + 0) 1, 0)) := by
  have hm : ∀ m, fX6_in (i3 p).toInt64 1 3 m = some (m, bI (wi (i3 p) 1 3)) := fun m => by rw [m_inI]; rfl
  have hw : wi (i3 p) 1 3 = true := wiT (a := 1) (b := 3) (by omega) hq hp
  intro f
  induction f with
  | zero => intro j k h1 h2; omega
  | succ f ih =>
    intro j k h1 h2
    unfold fX6_runScript_L6
    rw [iLe (by omega) (by omega)]
    cases j with
    | zero =>
      have e : k = p := by omega
      subst e
      refine ⟨fX6_runScript_L6 (i3 k) z f, ?_⟩
      rw [if_pos (by omega), hm, hw, gClI, gLtI, if_neg (by decide), oSM hp, gClI]
      cases okS z k with
      | true =>
        rw [if_neg (by decide), if_pos rfl]
        dsimp only
        rw [r_ok, gClI, if_pos rfl]
      | false =>
        rw [if_pos bIf, if_neg (by decide)]
        dsimp only
        rw [r_no (by decide), gClI, if_neg (by decide)]
    | succ j =>
      have h3 : ¬ (3 : Int32) ≤ i3 k := by
        rw [n3, i3le (by omega) (by omega)]
        omega
      rw [if_neg (by omega), if_neg h3, gLtI, n1, i3a]
      exact ih j (k + 1) (by omega) (by omega)
theorem rsN {a : Int32} {z : Int64} {m : gM} (hw : wi a 1 3 = false) : ∀ (f j k : Nat), k + j = 3 → j < f → fX6_runScript_L6 a z f (pw k) (i3 k) m = some (upd m (5693 + 0) 1, 0) := by
  have hm : ∀ m, fX6_in a.toInt64 1 3 m = some (m, bI (wi a 1 3)) := fun m => by rw [m_inI]; rfl
  intro f
  induction f with
  | zero => intro j k h1 h2; omega
  | succ f ih =>
    intro j k h1 h2
    unfold fX6_runScript_L6
    by_cases c : a ≤ i3 k
    · rw [if_pos c, hm, hw, gClI, gLtI, if_pos bIf]
      dsimp only
      rw [r_no (by decide), gClI, if_neg (by decide)]
    · rw [if_neg c, n3, iLe (by omega) (by omega)]
      cases j with
      | zero =>
        rw [if_pos (by omega), hm, hw, gClI, gLtI, if_pos bIf]
        dsimp only
        rw [r_no (by decide), gClI, if_neg (by decide)]
      | succ j =>
        rw [if_neg (by omega), gLtI, n1, i3a]
        exact ih j (k + 1) (by omega) (by omega)
theorem g26 : gP26 Inv := by
  intro T m a1 z hT hi
  obtain ⟨S, D, hb⟩ := hi.B
  have hc : fX5_isWithin a1 1 3 m = some (m, bI (wi a1 1 3)) := by rw [c_in]; rfl
  cases w1 : wi a1 1 3 with
  | false =>
    rw [w1] at hc
    refine q_no (r := 0) (k := 1) (e := 2) hi ?_ (by omega) rfl ?_
    · unfold fX5_runScript
      rw [hc, gClI, gDemF]
    · exact rsN w1 gFU 3 0 rfl (by show 3 < 5000; omega)
  | true =>
    rw [w1] at hc
    obtain ⟨p, e, b1, b2, -⟩ := wi_n (a := 1) (b := 3) w1
    subst e
    obtain ⟨rC, eC⟩ := rsC (z := z) (m := m) b2 gFU p 0 (by omega) (by show p < 5000; omega)
    have eC2 : fX5_runScript (i3 p) z m = gDem 2 (bI (okS z p)) m (gCv (fX0_copyFrom 436 128 m) fun m12 => fX5_runScript_L70 (i3 p) z rC gFU 0 m12) := by
      unfold fX5_runScript
      rw [hc, gClI, gDemT]
      exact eC
    cases ho : okS z p with
    | false =>
      obtain ⟨rM, eM⟩ := rsM (z := z) (m := m) b1 b2 gFU p 0 (by omega) (by show p < 5000; omega)
      rw [ho, gDemF] at eC2
      rw [ho, if_neg (by decide)] at eM
      exact q_no (r := 0) (k := 1) (e := 2) hi eC2 (by omega) rfl eM
    | true =>
      rw [ho, gDemT] at eC2
      obtain ⟨Z, ez, hZ⟩ := okS_x ho
      have hpn := pn_b b2
      obtain ⟨m1, s1, s2, s3⟩ := expC hb
      have eR : ∀ q, ∃ rM, fX6_runScript_L6 (i3 p) z gFU (pw 0) (i3 0) q = gCv (fX6_copyState 5824 258 0 6082 258 0 (upd q (5693 + 0) 0)) fun m13 => fX6_runScript_L86 (i3 p) z rM gFU (pw p) 0 m13 := fun q => by
        obtain ⟨rM, eM⟩ := rsM (z := z) (m := q) b1 b2 gFU p 0 (by omega) (by show p < 5000; omega)
        rw [ho, if_pos rfl] at eM
        exact ⟨rM, eM⟩
      subst ez
      rw [s1, gCvI] at eC2
      obtain ⟨S', D', v, v1, c1, -⟩ := scrL (B := 2400 + 60 * T) (p := p) (Z := Z) (rC := rC) (rM := fun _ _ _ => none) (by omega) b2 (by omega) gFU p 0 S D (by omega) (by show p < 5000; omega) hb.2.2
      obtain ⟨m2, t1, t2, t3⟩ := c1 m1 s2
      have sc2 : Sc m m2 := s3.tr (Sc.fr4 t3)
      obtain ⟨rM, eM⟩ := eR m2
      obtain ⟨S2, D2, v2, w1', c2, r2⟩ := scrL (B := 2400 + 60 * T) (p := p) (Z := Z) (rC := rC) (rM := rM) (by omega) b2 (by omega) gFU p 0 S D (by omega) (by show p < 5000; omega) hb.2.2
      have ev : v2 = v := by
        obtain ⟨m2', t1', -⟩ := c2 m1 s2
        rw [t1] at t1'
        injection t1' with t1'
        injection t1' with _ t1'
        injection t1' with _ t1'
        exact t1'.symm
      subst ev
      have hb2 := hb.sc sc2
      have hb3 := hb2.sc (Sc.th (v := 0))
      obtain ⟨m4, u1, u2, u3, u4⟩ := expM hb3
      obtain ⟨m5, x1, x2, x3⟩ := r2 m4 u2
      rw [u1, gCvI] at eM
      exact q_ok (r := v2) (m1 := m2) (m2 := m5) hi (eC2.trans t1) (eM.trans x1) (by rw [x3 _ (by omega), u4, upd_s]) (((sc2.tr Sc.th).tr u3).tr (Sc.fr6 x3))
