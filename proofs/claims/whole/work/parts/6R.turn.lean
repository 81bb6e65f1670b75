theorem tw_turn {B n : Nat} {S D : gB} (hI : Iv B S D) (hB : B < 100000) (hn : n < 2147483648) : Tw (B + 60) S D (fX5_takeTurn (i3 n)) (fX6_turnOf 6082 258 (i3 (n % 8)) (i3 (n / 8))) := by
  have hn0 := hI.1.1
  have hd := hI.1.2.1
  obtain ⟨X, hX⟩ : ∃ X, X = n / 8 := ⟨_, rfl⟩
  have hx : X < 268435456 := by omega
  rw [← hX]
  have hq : n % 8 < 8 := Nat.mod_lt _ (by omega)
  have C0 : ∀ m, fX5_takeTurn (i3 n) m = _ := fun m => turnC hn hX
  have R0 : ∀ m, fX6_turnOf 6082 258 (i3 (n % 8)) (i3 X) m = _ := fun m => turnR hx
  have R1 : ∀ m, fX6_turnCustomer 6082 258 (i3 (n % 8)) (i3 X) m = _ := fun m => turnR2 hx
  obtain ⟨k, hk⟩ : ∃ k, k = n % 8 := ⟨_, rfl⟩
  rw [← hk] at C0 R0 R1 hq ⊢
  rcases (show k = 0 ∨ k = 1 ∨ k = 2 ∨ k = 3 ∨ k = 4 ∨ k = 5 ∨ (k = 6 ∨ k = 7) by omega) with r | r | r | r | r | r | r
  · subst r
    have c0 : ∀ m, fX5_takeTurn (i3 n) m = gCl (fX0_perform 436 0 (i3 (X % 4)) (i3 (X / 4 % 10000000)) 0 m) fun m4 x5 => some m4 := fun m => by
      rw [C0, if_pos rfl]
      rfl
    have r0 : ∀ m, Mr 6082 S D m → fX6_turnOf 6082 258 (i3 0) (i3 X) m = (if 10 ≤ S.1 0 then some m else gCl (fX6_customerOn 6082 258 (i3 (X % 4)) (i3 (X / 4 % 10000000)) m) fun m20 x21 => some m20) := fun m h => by
      rw [R0, if_neg (by decide), R1, if_pos rfl, m_rS h (by omega) (by omega), iLe (by omega) (by omega)]
      by_cases q : 10 ≤ S.1 0
      · rw [if_pos q]; rfl
      · rw [if_neg q]
        cases fX6_customerOn 6082 258 (i3 (X % 4)) (i3 (X / 4 % 10000000)) m <;> rfl
    by_cases h10 : S.1 0 < 10
    · refine ⟨nwS S (X % 4) (X / 4 % 10000000), nwD S D, (hI.nw h10 (by omega)).le (by omega), fun m h => ?_, fun m h => ?_⟩
      · obtain ⟨m', s1, s2, s3⟩ := pf0 (p4 := 0) (st := X % 4) (L := X / 4 % 10000000) h hI.1 h10 (by omega) (by omega)
        exact ⟨m', (c0 m).trans (gClV s1), s2, s3⟩
      · obtain ⟨m', s1, s2, s3⟩ := m_cust (B := 0) (st := X % 4) (L := X / 4 % 10000000) h h10 (by omega)
        refine ⟨m', ?_, s2, s3⟩
        rw [r0 m h, if_neg (by omega)]
        exact gClV s1
    · refine Tw.no hI (by omega) (fun m h => ?_) (fun m h => ?_)
      · have e := rf0 (p2 := i3 (X % 4)) (p3 := i3 (X / 4 % 10000000)) (p4 := 0) h hI.1
        rw [c0]
        refine gClV (pf_no e ?_)
        rw [decide_eq_false h10]
        cases wi (i3 (X % 4)) 0 3 <;> cases wi (i3 (X / 4 % 10000000)) 0 9999999 <;> decide
      · rw [r0 m h, if_pos (by omega)]
  · subst r
    have c0 : ∀ m, fX5_takeTurn (i3 n) m = gCl (fX0_perform 436 1 (i3 (X % 10)) (i3 (X / 16 % 7)) (i3 (X / 128 % 10)) m) fun m4 x5 => some m4 := fun m => by
      rw [C0, if_neg (by decide), if_pos rfl]
      rfl
    have r0 : ∀ m, Mr 6082 S D m → fX6_turnOf 6082 258 (i3 1) (i3 X) m = (if hcu S (i3 (X % 10)) = false then some m else gCl (fX6_changeOn 6082 258 (i3 (X % 10)) (i3 (X / 16 % 7)) (i3 (X / 128 % 10)) m) fun m20 x21 => some m20) := fun m h => by
      rw [R0, if_neg (by decide), R1, if_neg (by decide), m_has h hI.1, gClI, iB0']
      cases hcu S (i3 (X % 10)) with
      | false => rfl
      | true =>
        rw [if_pos rfl, if_pos rfl, if_neg (by decide)]
        cases fX6_changeOn 6082 258 (i3 (X % 10)) (i3 (X / 16 % 7)) (i3 (X / 128 % 10)) m <;> rfl
    by_cases hc : X % 10 < S.1 0
    · refine ⟨_, D, (hI.wk (c := X % 10) (w := X / 16 % 7) (x := X / 128 % 10) hc (by omega) (by omega)).le (by omega), fun m h => ?_, fun m h => ?_⟩
      · obtain ⟨m', s1, s2, s3⟩ := pf1 (w := X / 16 % 7) (x := X / 128 % 10) h hI.1 hc (by omega) (by omega)
        exact ⟨m', (c0 m).trans (gClV s1), s2, s3⟩
      · obtain ⟨m', s1, s2, s3⟩ := m_chg (c := X % 10) (w := X / 16 % 7) (x := X / 128 % 10) h (by omega) (by omega)
        refine ⟨m', ?_, s2, s3⟩
        rw [r0 m h, hcT hc hn0, if_neg (by decide)]
        exact gClV s1
    · refine Tw.no hI (by omega) (fun m h => ?_) (fun m h => ?_)
      · have e := rf1 (p2 := i3 (X % 10)) (p3 := i3 (X / 16 % 7)) (p4 := i3 (X / 128 % 10)) h hI.1
        rw [c0]
        refine gClV (pf_no e ?_)
        rw [hcF hc (by omega)]
        exact show 20001 ≠ 20000 by decide
      · rw [r0 m h, hcF hc (by omega), if_pos rfl]
  · subst r
    have c0 : ∀ m, Cb 436 S D m → fX5_takeTurn (i3 n) m = gCl (fX0_perform 436 2 (i3 (X % 10)) (i3 (S.1 1 + X / 16 % 20)) (i3 (S.1 1 + X / 16 % 20 + X / 512 % 9)) m) fun m4 x5 => some m4 := fun m h => by
      rw [C0, if_neg (by decide), if_neg (by decide), if_pos rfl, Cx.h1 h, i3a, i3a]
      rfl
    have r0 : ∀ m, Mr 6082 S D m → fX6_turnOf 6082 258 (i3 2) (i3 X) m = (if hcu S (i3 (X % 10)) = false then some m else if (wi (i3 (S.1 1 + X / 16 % 20)) 0 999 && wi (i3 (S.1 1 + X / 16 % 20 + X / 512 % 9)) (i3 (S.1 1 + X / 16 % 20)).toInt 999) = false then some m else if 3 ≤ S.2 (X % 10) 14 then some m else gCl (fX6_holidayOn 6082 258 (i3 (X % 10)) (i3 (S.1 1 + X / 16 % 20)) (i3 (S.1 1 + X / 16 % 20 + X / 512 % 9)) m) fun m20 x21 => some m20) := fun m h => by
      rw [R0, if_neg (by decide), R1, if_neg (by decide), m_has h hI.1, gClI, iB0']
      cases hcc : hcu S (i3 (X % 10)) with
      | false => rfl
      | true =>
        obtain ⟨c, e, hc⟩ := hcu_x hcc
        rw [i3e (by omega) (by omega)] at e
        rw [if_pos rfl, if_neg (by decide), if_neg (by decide), m_rS h (by omega) (by omega), i3a, i3a, m_span, gClI, iB0']
        have h14 := (hI.1.cust hc).2.2.1
        rw [← e] at h14
        cases (wi (i3 (S.1 1 + X / 16 % 20)) 0 999 && wi (i3 (S.1 1 + X / 16 % 20 + X / 512 % 9)) (i3 (S.1 1 + X / 16 % 20)).toInt 999) with
        | false => rfl
        | true =>
          rw [if_pos rfl, if_neg (by decide), m_ofS h (by omega) (by omega) (by omega), gClI, iLe (by omega) (by omega)]
          by_cases q : 3 ≤ S.2 (X % 10) 14
          · rw [if_pos q]; rfl
          · rw [if_neg q]
            cases fX6_holidayOn 6082 258 (i3 (X % 10)) (i3 (S.1 1 + X / 16 % 20)) (i3 (S.1 1 + X / 16 % 20 + X / 512 % 9)) m <;> rfl
    by_cases hc : X % 10 < S.1 0
    · have hcu := hI.1.cust hc
      by_cases hs : (wi (i3 (S.1 1 + X / 16 % 20)) 0 999 && wi (i3 (S.1 1 + X / 16 % 20 + X / 512 % 9)) (i3 (S.1 1 + X / 16 % 20)).toInt 999) = true
      · have hs2 := hs
        rw [Bool.and_eq_true, i3t (by omega)] at hs2
        obtain ⟨x', e1, -, b1, -⟩ := wi_n (a := 0) (b := 999) hs2.1
        rw [i3e (by omega) (by omega)] at e1
        obtain ⟨y', e2, b2, b3, -⟩ := wi_n (a := S.1 1 + X / 16 % 20) (b := 999) hs2.2
        rw [i3e (by omega) (by omega)] at e2
        by_cases h3 : S.2 (X % 10) 14 < 3
        · refine ⟨_, D, (hI.cu (c := X % 10) (hoR_s (x := S.1 1 + X / 16 % 20) (y := S.1 1 + X / 16 % 20 + X / 512 % 9) hcu h3 (by omega) (by omega))).le (by omega), fun m h => ?_, fun m h => ?_⟩
          · obtain ⟨m', s1, s2, s3⟩ := pf2 (x := S.1 1 + X / 16 % 20) (y := S.1 1 + X / 16 % 20 + X / 512 % 9) h hI.1 hc h3 (by omega) (by omega)
            exact ⟨m', (c0 m h).trans (gClV s1), s2, s3⟩
          · obtain ⟨m', s1, s2, s3⟩ := m_hol (B := 0) (c := X % 10) (x := S.1 1 + X / 16 % 20) (y := S.1 1 + X / 16 % 20 + X / 512 % 9) h (by omega) h3
            refine ⟨m', ?_, s2, s3⟩
            rw [r0 m h, hcT hc hn0, if_neg (by decide), hs, if_neg (by decide), if_neg (by omega)]
            exact gClV s1
        · refine Tw.no hI (by omega) (fun m h => ?_) (fun m h => ?_)
          · obtain ⟨z, hz, e⟩ := rf2 (p2 := i3 (X % 10)) (p3 := i3 (S.1 1 + X / 16 % 20)) (p4 := i3 (S.1 1 + X / 16 % 20 + X / 512 % 9)) h hI.1
            rw [c0 m h]
            refine gClV (pf_no e ?_)
            rw [hz _ rfl hc, decide_eq_false h3, hs, hcT hc hn0]
            exact show 20003 ≠ 20000 by decide
          · rw [r0 m h, hcT hc hn0, if_neg (by decide), hs, if_neg (by decide), if_pos (by omega)]
      · have hs2 := Bool.eq_false_iff.mpr hs
        refine Tw.no hI (by omega) (fun m h => ?_) (fun m h => ?_)
        · obtain ⟨z, hz, e⟩ := rf2 (p2 := i3 (X % 10)) (p3 := i3 (S.1 1 + X / 16 % 20)) (p4 := i3 (S.1 1 + X / 16 % 20 + X / 512 % 9)) h hI.1
          rw [c0 m h]
          refine gClV (pf_no e ?_)
          rw [hs2, hcT hc hn0]
          exact show 20002 ≠ 20000 by decide
        · rw [r0 m h, hcT hc hn0, if_neg (by decide), hs2, if_pos rfl]
    · refine Tw.no hI (by omega) (fun m h => ?_) (fun m h => ?_)
      · obtain ⟨z, hz, e⟩ := rf2 (p2 := i3 (X % 10)) (p3 := i3 (S.1 1 + X / 16 % 20)) (p4 := i3 (S.1 1 + X / 16 % 20 + X / 512 % 9)) h hI.1
        rw [c0 m h]
        refine gClV (pf_no e ?_)
        rw [hcF hc (by omega)]
        exact show 20001 ≠ 20000 by decide
      · rw [r0 m h, hcF hc (by omega), if_pos rfl]
  · subst r
    obtain ⟨v, hv1, hv2⟩ : ∃ v : Nat, (if i3 (X / 32 % 3) = i3 0 then i3 1 else i3 0) = i3 v ∧ v ≤ 1 := by
      by_cases c : i3 (X / 32 % 3) = i3 0
      · rw [if_pos c]; exact ⟨1, rfl, by omega⟩
      · rw [if_neg c]; exact ⟨0, rfl, by omega⟩
    have hv3 : (if i3 v = 0 then (0 : Int32) else 1) = i3 v := by
      rcases (show v = 0 ∨ v = 1 by omega) with r | r <;> subst r <;> rfl
    have hv4 : (if i3 v = 1 then (1 : Int32) else 0) = i3 v := by
      rcases (show v = 0 ∨ v = 1 by omega) with r | r <;> subst r <;> rfl
    refine ⟨_, D, (hI.sh (st := X % 4) (w := X / 4 % 7) (by omega) (by omega) hv2).le (by omega), fun m h => ?_, fun m h => ?_⟩
    · obtain ⟨m', s1, s2, s3⟩ := pf4 (st := X % 4) (w := X / 4 % 7) h hI (by omega) (by omega) hv4 hv2
      refine ⟨m', ?_, s2, s3⟩
      rw [C0, if_neg (by decide), if_neg (by decide), if_neg (by decide), if_pos rfl, hv1]
      exact gClV s1
    · obtain ⟨m', s1, s2, s3⟩ := m_close (B := 0) (st := X % 4) (w := X / 4 % 7) h (by omega) (by omega) hv3
      refine ⟨m', ?_, s2, s3⟩
      rw [R0, if_pos (by decide), if_pos rfl, hv1]
      exact gClV s1
  · subst r
    refine ⟨_, D, (hI.sw (s := X % 4) (t := X / 4 % 4) (by omega) (by omega)).le (by omega), fun m h => ?_, fun m h => ?_⟩
    · obtain ⟨m', s1, s2, s3⟩ := pf5 (p4 := 0) (s := X % 4) (t := X / 4 % 4) h hI.1 (by omega) (by omega)
      refine ⟨m', ?_, s2, s3⟩
      rw [C0, if_neg (by decide), if_neg (by decide), if_neg (by decide), if_neg (by decide), if_pos rfl]
      exact gClV s1
    · obtain ⟨m', s1, s2, s3⟩ := m_swap (s := X % 4) (t := X / 4 % 4) h hI.1 (by omega) (by omega)
      refine ⟨m', ?_, s2, s3⟩
      rw [R0, if_pos (by decide), if_neg (by decide), if_pos rfl]
      exact gClV s1
  · subst r
    have c0 : ∀ m, fX5_takeTurn (i3 n) m = _ := fun m => by
      rw [C0, if_neg (by decide), if_neg (by decide), if_neg (by decide), if_neg (by decide), if_neg (by decide), if_pos rfl]
    have r0 : ∀ m, fX6_turnOf 6082 258 (i3 5) (i3 X) m = _ := fun m => by
      rw [R0, if_pos (by decide), if_neg (by decide), if_neg (by decide), if_pos (by decide)]
    by_cases q : i3 (X / 128 % 2) = i3 0
    · have ho : stOk 0 (X % 100) := Or.inl ⟨rfl, by omega⟩
      refine ⟨_, D, (hI.st ho).le (by omega), fun m h => ?_, fun m h => ?_⟩
      · obtain ⟨m', s1, s2, s3⟩ := pf6 (p4 := 0) h ho
        refine ⟨m', ?_, s2, s3⟩
        rw [c0, if_pos q]
        exact gClV s1
      · refine ⟨_, ?_, h.SH (i := 11 + 0) (v := X % 100) (by omega) (by omega), Fr.up (by omega) (by omega)⟩
        rw [r0, if_pos q, gWrI (by omega) (by omega)]
    · have ho : stOk (1 + X % 3) (X / 4 % 10) := by unfold stOk; omega
      refine ⟨_, D, (hI.st ho).le (by omega), fun m h => ?_, fun m h => ?_⟩
      · obtain ⟨m', s1, s2, s3⟩ := pf6 (p4 := 0) h ho
        refine ⟨m', ?_, s2, s3⟩
        rw [c0, if_neg q]
        exact gClV s1
      · refine ⟨_, ?_, h.SH (i := 11 + (1 + X % 3)) (v := X / 4 % 10) (by omega) (by omega), Fr.up (by omega) (by omega)⟩
        rw [r0, if_neg q, m_se, seT ho, gClI, if_neg (by decide), gWrI (by omega) (by omega), show 12 + X % 3 = 11 + (1 + X % 3) from by omega]
  · have c0 : ∀ m, fX5_takeTurn (i3 n) m = gCl (fX0_perform 436 7 (i3 (1 + X % 9)) 0 0 m) fun m43 x44 => some m43 := fun m => by
      rcases r with r | r <;> subst r
      · rw [C0, if_neg (by decide), if_neg (by decide), if_neg (by decide), if_neg (by decide), if_neg (by decide), if_neg (by decide)]
        rfl
      · rw [C0, if_neg (by decide), if_neg (by decide), if_neg (by decide), if_neg (by decide), if_neg (by decide), if_neg (by decide)]
        rfl
    have r0 : ∀ m, fX6_turnOf 6082 258 (i3 k) (i3 X) m = gCl (fX6_daysOn 6082 258 (i3 (1 + X % 9)) m) fun m6 x7 => some m6 := fun m => by
      rcases r with r | r <;> subst r
      · rw [R0, if_pos (by decide), if_neg (by decide), if_neg (by decide), if_neg (by decide)]
      · rw [R0, if_pos (by decide), if_neg (by decide), if_neg (by decide), if_neg (by decide)]
    refine ⟨_, _, (hI.days (1 + X % 9)).1.le (by omega), fun m h => ?_, fun m h => ?_⟩
    · obtain ⟨m', s1, s2, s3⟩ := pf7 (p3 := 0) (p4 := 0) (p := 1 + X % 9) h hI (by omega) (by omega) (by omega)
      exact ⟨m', (c0 m).trans (gClV s1), s2, s3⟩
    · obtain ⟨m', s1, s2, s3⟩ := m_days (p := 1 + X % 9) h hI (by omega) (by omega)
      exact ⟨m', (r0 m).trans (gClV s1), s2, s3⟩
theorem rndN (s : Int64) : ∃ n : Nat, (s.toUInt64 >>> ((33 : Int32).toInt64.toUInt64 &&& Int64.toUInt64 63)).toInt64.toInt32 = i3 n ∧ n < 2147483648 := by
  have e : ((33 : Int32).toInt64.toUInt64 &&& Int64.toUInt64 63) = 33 := by decide
  rw [e]
  generalize hu : s.toUInt64 >>> 33 = u
  have h1 : u.toNat < 2147483648 := by
    rw [← hu, UInt64.toNat_shiftRight]
    have := s.toUInt64.toNat_lt
    rw [show UInt64.toNat 33 % 64 = 33 from rfl, Nat.shiftRight_eq_div_pow]
    omega
  have h2 : u.toInt64.toInt32.toInt = (u.toNat : Int) := by
    have h3 : u.toInt64.toInt = (u.toNat : Int) := by
      show u.toBitVec.toInt = _
      rw [BitVec.toInt_eq_toNat_bmod, UInt64.toNat_toBitVec, Int.bmod_eq_of_le (by omega) (by omega)]
    rw [Int64.toInt_toInt32, h3, Int.bmod_eq_of_le (by omega) (by omega)]
  obtain ⟨n, a1, a2, a3⟩ := i3x u.toInt64.toInt32 (by omega)
  exact ⟨n, a1, a2⟩
def finC (m : gM) : Option (gM × Nat × Int32) := gCl (fX0_sumOf 436 3 m) fun m11 x12 => gCl (fX0_sumOf 128 3 m11) fun m15 x16 => gLt ((x12 - x16)) fun x18 => gCl (fX0_sumOf 436 2 m15) fun m20 x21 => some (m20, 0, ((1000 * (x18 - x18 / 1000 * 1000)) + x21))
def finM (m : gM) : Option (gM × Int32) := gRd m 6082 258 3 fun x16 => gRd m 5824 258 3 fun x18 => gCl (fX6_credits 6082 258 m) fun m20 x21 => some (m20, ((1000 * ((x16 - x18) - (x16 - x18) / 1000 * 1000)) + x21))
theorem simL {B p : Nat} (hB : B + 60 * 60 < 100000) (hp : p ≤ 60) : ∀ (f j k : Nat) (seed : Int64) (S D : gB), k + j = p → j < f → Iv (B + 60 * k) S D → ∃ S' D', Iv (B + 60 * p) S' D' ∧ (∀ m, Cb 436 S D m → ∃ m', fX5_simulate_L27 (i3 p) f seed (i3 k) m = finC m' ∧ Cb 436 S' D' m' ∧ Fr 436 308 m m') ∧ (∀ m, Mr 6082 S D m → ∃ m', fX6_simulate_L45 (i3 p) f seed (i3 k) m = finM m' ∧ Mr 6082 S' D' m' ∧ Fr 6082 258 m m') := by
  intro f
  induction f with
  | zero => intro j k seed S D h1 h2; omega
  | succ f ih =>
    intro j k seed S D h1 h2 hI
    cases j with
    | zero =>
      have e : k = p := by omega
      subst e
      refine ⟨S, D, hI, fun m h => ⟨m, ?_, h, Fr.rf⟩, fun m h => ⟨m, ?_, h, Fr.rf⟩⟩
      · unfold fX5_simulate_L27
        rw [if_pos (by rw [i3le (by omega) (by omega)]; omega)]
        rfl
      · unfold fX6_simulate_L45
        rw [if_pos (by rw [i3le (by omega) (by omega)]; omega)]
        rfl
    | succ j =>
      obtain ⟨n, en, hn⟩ := rndN ((seed * 6364136223846793005) + 1442695040888963407)
      obtain ⟨S1, D1, v1, c1, r1⟩ := tw_turn hI (by omega) hn
      obtain ⟨S2, D2, v2, c2, r2⟩ := ih j (k + 1) ((seed * 6364136223846793005) + 1442695040888963407) S1 D1 (by omega) (by omega) (v1.le (by omega))
      refine ⟨S2, D2, v2, fun m h => ?_, fun m h => ?_⟩
      · obtain ⟨m1, a1, a2, a3⟩ := c1 m h
        obtain ⟨m2, b1, b2, b3⟩ := c2 m1 a2
        refine ⟨m2, ?_, b2, a3.tr b3⟩
        unfold fX5_simulate_L27
        rw [iLe (by omega) (by omega), if_neg (by omega), en, a1, gCvI, gLtI, n1, i3a]
        exact b1
      · obtain ⟨m1, a1, a2, a3⟩ := r1 m h
        obtain ⟨m2, b1, b2, b3⟩ := r2 m1 a2
        refine ⟨m2, ?_, b2, a3.tr b3⟩
        unfold fX6_simulate_L45
        rw [iLe (by omega) (by omega), if_neg (by omega), en, gLtI, n8, i3d (by omega) (by omega), i3r2, a1, gCvI, gLtI, n1, i3a]
        exact b1
theorem g27 : gP27 Inv := by
  intro T m z a3 hT hi
  obtain ⟨S, D, hb⟩ := hi.B
  have hc : fX5_isWithin a3 1 60 m = some (m, bI (wi a3 1 60)) := by rw [c_in]; rfl
  have hm : ∀ m, fX6_in a3.toInt64 1 60 m = some (m, bI (wi a3 1 60)) := fun m => by rw [m_inI]; rfl
  cases w1 : wi a3 1 60 with
  | false =>
    rw [w1] at hc
    refine q_no (r := 0) (k := 1) (e := 2) hi ?_ (by omega) rfl ?_
    · unfold fX5_simulate
      rw [hc, gClI, gDemF]
    · unfold fX6_simulate
      rw [hm, w1, gClI, m_reqF, if_neg (by decide)]
  | true =>
    rw [w1] at hc
    obtain ⟨p, e, b1, b2, -⟩ := wi_n (a := 1) (b := 60) w1
    obtain ⟨m1, s1, s2, s3⟩ := expC hb
    obtain ⟨S', D', v1, c1, r1⟩ := simL (B := 2400 + 60 * T) (p := p) (by omega) b2 gFU p 0 z S D (by omega) (by show p < 5000; omega) hb.2.2
    obtain ⟨m2, t1, t2, t3⟩ := c1 m1 s2
    have sc2 : Sc m m2 := s3.tr (Sc.fr4 t3)
    have hb2 := hb.sc sc2
    have hb3 := hb2.sc (Sc.th (v := 0))
    obtain ⟨m4, u1, u2, u3, u4⟩ := expM hb3
    obtain ⟨m5, x1, x2, x3⟩ := r1 m4 u2
    have hb5 := (hb3.sc u3).sc (Sc.fr6 x3)
    rw [← n0] at t1 x1
    have k1 : finC m2 = some (m2, 0, ((1000 * ((i3 (D'.1 3) - i3 (D.1 3)) - (i3 (D'.1 3) - i3 (D.1 3)) / 1000 * 1000)) + i3 (sm (fun c => D'.2 c 8) (S'.1 0)))) := by
      unfold finC
      rw [(c_sums t2 v1).2.1, gClI, (c_sums hb2.1 hb2.2.2).2.1, gClI, gLtI, (c_sums t2 v1).1, gClI]
    have k2 : finM m5 = some (m5, ((1000 * ((i3 (D'.1 3) - i3 (D.1 3)) - (i3 (D'.1 3) - i3 (D.1 3)) / 1000 * 1000)) + i3 (sm (fun c => D'.2 c 8) (S'.1 0)))) := by
      unfold finM
      rw [n3, m_rD x2 (by omega) (by omega), m_rD hb5.2.1 (by omega) (by omega), m_cred x2 v1.1, gClI]
    refine q_ok (r := ((1000 * ((i3 (D'.1 3) - i3 (D.1 3)) - (i3 (D'.1 3) - i3 (D.1 3)) / 1000 * 1000)) + i3 (sm (fun c => D'.2 c 8) (S'.1 0)))) (m1 := m2) (m2 := m5) hi ?_ ?_ ?_ (((sc2.tr Sc.th).tr u3).tr (Sc.fr6 x3))
    · unfold fX5_simulate
      rw [hc, gClI, gDemT, s1, gCvI, e, t1, k1]
    · unfold fX6_simulate
      rw [hm, w1, gClI, m_reqT, if_pos rfl, u1, gCvI, e, x1, k2]
    · rw [x3 _ (by omega), u4, upd_s]
