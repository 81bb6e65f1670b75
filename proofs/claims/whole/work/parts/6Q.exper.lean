/-! when is it clear -/
def clr (z : gB × gB) (c : Nat) : Nat → Nat → Int32
  | 0, _ => -1
  | j + 1, k => if (daysZ k z).2.2 c 8 = 0 then i3 k else clr z c j (k + 1)
theorem daysN {B : Nat} {S D : gB} (h : Iv B S D) (k : Nat) : (daysZ k (S, D)).1.1 0 = S.1 0 := by
  have := rnd_len (h.days k).1.1
  rw [daysZ_rnd, rnd_len h.1] at this
  exact this.symm
theorem c_clr {B c : Nat} {S D : gB} (hI : Iv B S D) (hB : B < 100000) (hc : c < S.1 0) : ∀ (f j k : Nat) (m : gM), k + j = 201 → j < f → Cb 436 (daysZ k (S, D)).1 (daysZ k (S, D)).2 m → ∃ m', fX5_clearIn_L24 (i3 c) f (i3 k) m = some (m', 0, clr (S, D) c j k) ∧ Fr 436 308 m m' := by
  have hn := hI.1.1
  intro f
  induction f with
  | zero => intro j k m h1 h2; omega
  | succ f ih =>
    intro j k m h1 h2 h
    unfold fX5_clearIn_L24
    rw [n200, iLt (by omega) (by omega)]
    cases j with
    | zero =>
      rw [if_pos (by omega)]
      exact ⟨m, rfl, Fr.rf⟩
    | succ j =>
      have hv := (hI.days k).1
      have eN := daysN hI k
      have hcr := hv.2.1 c (by omega)
      rw [if_neg (by omega), gEl10 (by omega), (Cx.c h (c := c) (by omega)).f1, gLtI, n0, iEq (by omega) (by omega)]
      unfold clr
      by_cases q : (daysZ k (S, D)).2.2 c 8 = 0
      · rw [if_pos q, if_pos q]
        exact ⟨m, rfl, Fr.rf⟩
      · obtain ⟨m1, s1, s2, s3⟩ := c_days (p := 1) h hv (by omega) (by omega)
        rw [if_neg q, if_neg q, n1, s1, gClI, gLtI, i3a]
        have e : daysZ 1 ((daysZ k (S, D)).1, (daysZ k (S, D)).2) = daysZ (k + 1) (S, D) := (daysZ_S k (S, D)).symm
        rw [e] at s2
        obtain ⟨m2, t1, t2⟩ := ih j (k + 1) m1 (by omega) (by omega) s2
        exact ⟨m2, t1, s3.tr t2⟩
theorem m_clr {B c : Nat} {S D : gB} (hI : Iv B S D) (hB : B < 100000) (hc : c < S.1 0) : ∀ (f j k : Nat) (m : gM), k + j = 201 → j < f → Mr 6082 (daysZ k (S, D)).1 (daysZ k (S, D)).2 m → ∃ m', fX6_clearIn_L40 (i3 c) f (i3 k) m = some (m', clr (S, D) c j k) ∧ Fr 6082 258 m m' := by
  have hn := hI.1.1
  intro f
  induction f with
  | zero => intro j k m h1 h2; omega
  | succ f ih =>
    intro j k m h1 h2 h
    unfold fX6_clearIn_L40
    rw [n200, iLt (by omega) (by omega)]
    cases j with
    | zero =>
      rw [if_pos (by omega)]
      exact ⟨m, rfl, Fr.rf⟩
    | succ j =>
      have hv := (hI.days k).1
      have hcr := hv.2.1 c (by rw [daysN hI k]; exact hc)
      rw [if_neg (by omega), n8, m_ofD h (by omega) (by omega) (by omega), gClI, n0, iEq (by omega) (by omega)]
      unfold clr
      by_cases q : (daysZ k (S, D)).2.2 c 8 = 0
      · rw [if_pos q, if_pos q]
        exact ⟨m, rfl, Fr.rf⟩
      · obtain ⟨m1, s1, s2, s3⟩ := m_day h hv (by omega)
        rw [if_neg q, if_neg q, s1, gCvI, gLtI, n1, i3a]
        have e1 : dayS (daysZ k (S, D)).1 = (daysZ (k + 1) (S, D)).1 := by rw [daysZ_S]
        have e2 : dayD (daysZ k (S, D)).1 (daysZ k (S, D)).2 = (daysZ (k + 1) (S, D)).2 := by rw [daysZ_S]
        rw [e1, e2] at s2
        obtain ⟨m2, t1, t2⟩ := ih j (k + 1) m1 (by omega) (by omega) s2
        exact ⟨m2, t1, s3.tr t2⟩
theorem g23 : gP23 Inv := by
  intro T m a1 hT hi
  obtain ⟨S, D, hb⟩ := hi.B
  have hn := hb.2.2.1.1
  cases w1 : hcu S a1 with
  | false =>
    refine q_no (r := 0) (k := 1) (e := 1) hi ?_ (by omega) rfl ?_
    · unfold fX5_clearIn
      rw [c_has hb.1 hb.2.2.1, w1, gClI, gDemF]
    · unfold fX6_clearIn
      rw [m_has hb.2.1 hb.2.2.1, w1, gClI, m_reqF, if_neg (by decide)]
  | true =>
    obtain ⟨c, e1, b1⟩ := hcu_x w1
    obtain ⟨m1, s1, s2, s3⟩ := expC hb
    obtain ⟨m2, t1, t3⟩ := c_clr hb.2.2 (by omega) b1 gFU 201 0 m1 (by omega) (by show 201 < 5000; omega) s2
    have sc2 : Sc m m2 := s3.tr (Sc.fr4 t3)
    have hb3 := (hb.sc sc2).sc (Sc.th (v := 0))
    obtain ⟨m4, u1, u2, u3, u4⟩ := expM hb3
    obtain ⟨m5, v1, v3⟩ := m_clr hb.2.2 (by omega) b1 gFU 201 0 m4 (by omega) (by show 201 < 5000; omega) u2
    rw [← n0] at t1 v1
    refine q_ok (r := clr (S, D) c 201 0) (m1 := m2) (m2 := m5) hi ?_ ?_ ?_ (((sc2.tr Sc.th).tr u3).tr (Sc.fr6 v3))
    · unfold fX5_clearIn
      rw [c_has hb.1 hb.2.2.1, w1, gClI, gDemT, s1, gCvI, e1]
      exact t1
    · unfold fX6_clearIn
      rw [m_has (hb.sc sc2).2.1 hb.2.2.1, w1, gClI, m_reqT, if_pos rfl, u1, gCvI, e1]
      exact v1
    · rw [v3 _ (by omega), u4, upd_s]
/-! a turn by chance -/
def Tw (B' : Nat) (S D : gB) (C R : gM → Option gM) : Prop := ∃ S' D', Iv B' S' D' ∧ (∀ m, Cb 436 S D m → ∃ m', C m = some m' ∧ Cb 436 S' D' m' ∧ Fr 436 308 m m') ∧ (∀ m, Mr 6082 S D m → ∃ m', R m = some m' ∧ Mr 6082 S' D' m' ∧ Fr 6082 258 m m')
theorem gClV {F : Option (gM × Int32)} {m' : gM} {r : Int32} (h : F = some (m', r)) : (gCl F fun m x => some m) = some m' := by
  rw [h, gClI]
theorem Tw.no {B B' : Nat} {S D : gB} {C R : gM → Option gM} (hI : Iv B S D) (hb : B ≤ B') (h1 : ∀ m, Cb 436 S D m → C m = some m) (h2 : ∀ m, Mr 6082 S D m → R m = some m) : Tw B' S D C R :=
  ⟨S, D, hI.le hb, fun m h => ⟨m, h1 m h, h, Fr.rf⟩, fun m h => ⟨m, h2 m h, h, Fr.rf⟩⟩
theorem i3r2 (a b : Nat) : i3 a - i3 (a / b) * i3 b = i3 (a % b) := by
  rw [i3m, i3s (Nat.div_mul_le_self a b), Nat.mod_def, Nat.mul_comm]
theorem hcF {S : gB} {c : Nat} (hc : ¬ c < S.1 0) (hn : c < 1000) : hcu S (i3 c) = false := by
  unfold hcu wi
  rw [i3t (by omega)]
  exact decide_eq_false (by omega)
theorem wiF {n a b : Nat} (hn : n < 2147483648) (h1 : ¬ (a ≤ n ∧ n ≤ b)) : wi (i3 n) (a : Int) (b : Int) = false := by
  rw [wiN hn]
  exact decide_eq_false h1
theorem turnC {n X : Nat} {m : gM} (hn : n < 2147483648) (hX : X = n / 8) : fX5_takeTurn (i3 n) m = (if i3 (n % 8) = i3 0 then gCl (fX0_perform 436 (i3 0) (i3 (X % 4)) (i3 (X / 4 % 10000000)) (i3 0) m) fun m4 x5 => some m4 else (if i3 (n % 8) = i3 1 then gCl (fX0_perform 436 (i3 1) (i3 (X % 10)) (i3 (X / 16 % 7)) (i3 (X / 128 % 10)) m) fun m9 x10 => some m9 else (if i3 (n % 8) = i3 2 then gCl (fX0_perform 436 (i3 2) (i3 (X % 10)) (m (436 + 1) + i3 (X / 16 % 20)) (m (436 + 1) + i3 (X / 16 % 20) + i3 (X / 512 % 9)) m) fun m17 x18 => some m17 else (if i3 (n % 8) = i3 3 then gCl (fX0_perform 436 (i3 4) (i3 (X % 4)) (i3 (X / 4 % 7)) (if i3 (X / 32 % 3) = i3 0 then i3 1 else i3 0) m) fun m25 x26 => some m25 else (if i3 (n % 8) = i3 4 then gCl (fX0_perform 436 (i3 5) (i3 (X % 4)) (i3 (X / 4 % 4)) (i3 0) m) fun m30 x31 => some m30 else (if i3 (n % 8) = i3 5 then (if i3 (X / 128 % 2) = i3 0 then gCl (fX0_perform 436 (i3 6) (i3 0) (i3 (X % 100)) (i3 0) m) fun m39 x40 => some m39 else gCl (fX0_perform 436 (i3 6) (i3 (1 + X % 3)) (i3 (X / 4 % 10)) (i3 0) m) fun m35 x36 => some m35) else gCl (fX0_perform 436 (i3 7) (i3 (1 + X % 9)) (i3 0) (i3 0) m) fun m43 x44 => some m43)))))) := by
  have hx : X < 268435456 := by omega
  subst hX
  unfold fX5_takeTurn
  simp (disch := omega) only [gLtI, n0, n1, n2, n3, n4, n5, n6, n7, n8, n9, n10, n16, n20, n32, n100, n128, n512, n10000000, i3d, i3r2, i3a]
theorem turnR {k X : Nat} {m : gM} (hx : X < 268435456) : fX6_turnOf 6082 258 (i3 k) (i3 X) m = (if i3 3 ≤ i3 k then (if i3 k = i3 3 then gCl (fX6_closeOn 6082 258 (i3 (X % 4)) (i3 (X / 4 % 7)) (if i3 (X / 32 % 3) = i3 0 then i3 1 else i3 0) m) fun m15 x16 => some m15 else (if i3 k = i3 4 then gCl (fX6_swapOn 6082 258 (i3 (X % 4)) (i3 (X / 4 % 4)) m) fun m9 x10 => some m9 else (if i3 k ≤ i3 5 then (if i3 (X / 128 % 2) = i3 0 then gWr m 6082 258 (i3 11) (i3 (X % 100)) fun m5 => some m5 else gCl (fX6_isSetting (i3 (1 + X % 3)) (i3 (X / 4 % 10)) m) fun m1 x2 => (if x2 = i3 0 then some m1 else gWr m1 6082 258 (i3 (12 + X % 3)) (i3 (X / 4 % 10)) fun m4 => some m4)) else gCl (fX6_daysOn 6082 258 (i3 (1 + X % 9)) m) fun m6 x7 => some m6))) else gCv (fX6_turnCustomer 6082 258 (i3 k) (i3 X) m) fun m18 => some m18) := by
  unfold fX6_turnOf
  simp (disch := omega) only [gLtI, n0, n1, n2, n3, n4, n5, n7, n9, n10, n11, n12, n32, n100, n128, i3d, i3r2, i3a]
theorem turnR2 {k X : Nat} {m : gM} (hx : X < 268435456) : fX6_turnCustomer 6082 258 (i3 k) (i3 X) m = (if i3 k = i3 0 then gRd m 6082 258 (i3 0) fun x19 => (if i3 10 ≤ x19 then some m else gCl (fX6_customerOn 6082 258 (i3 (X % 4)) (i3 (X / 4 % 10000000)) m) fun m20 x21 => some m20) else gCl (fX6_isCustomer 6082 258 (i3 (X % 10)) m) fun m2 x3 => (if x3 = i3 0 then some m2 else (if i3 k = i3 1 then gCl (fX6_changeOn 6082 258 (i3 (X % 10)) (i3 (X / 16 % 7)) (i3 (X / 128 % 10)) m2) fun m16 x17 => some m16 else gRd m2 6082 258 (i3 1) fun x5 => gCl (fX6_isSpan (x5 + i3 (X / 16 % 20)) (x5 + i3 (X / 16 % 20) + i3 (X / 512 % 9)) m2) fun m7 x8 => (if x8 = i3 0 then some m7 else gCl (fX6_of 6082 258 (i3 (X % 10)) (i3 14) m7) fun m10 x11 => (if i3 3 ≤ x11 then some m10 else gCl (fX6_holidayOn 6082 258 (i3 (X % 10)) (x5 + i3 (X / 16 % 20)) (x5 + i3 (X / 16 % 20) + i3 (X / 512 % 9)) m10) fun m13 x14 => some m13))))) := by
  unfold fX6_turnCustomer
  simp (disch := omega) only [gLtI, n0, n1, n3, n4, n7, n9, n10, n14, n16, n20, n128, n512, n10000000, i3d, i3r2]
theorem m_span (p q : Int32) (m : gM) : fX6_isSpan p q m = some (m, bI (wi p 0 999 && wi q p.toInt 999)) := by
  unfold fX6_isSpan
  rw [m_inI, gClI, iB0, m_in, Int32.toInt_toInt64, Int32.toInt_toInt64, gClI, iB0]
  show (if wi p 0 999 = true then (if wi q p.toInt 999 = true then _ else _) else _) = _
  cases wi p 0 999 <;> cases wi q p.toInt 999 <;> rfl
