/-! a turn on the trial's book -/
def Tw (B' : Nat) (S D : gB) (C : Nat → gM → Option gM) : Prop := ∃ S' D', Iv B' S' D' ∧ ∀ a m, Cb (a + 436) S D m → ∃ m', C a m = some m' ∧ Cb (a + 436) S' D' m' ∧ Fr (a + 436) 308 m m'
theorem Tw.no {B B' : Nat} {S D : gB} {C : Nat → gM → Option gM} (hI : Iv B S D) (hb : B ≤ B') (h1 : ∀ a m, Cb (a + 436) S D m → C a m = some m) : Tw B' S D C :=
  ⟨S, D, hI.le hb, fun a m h => ⟨m, h1 a m h, h, Fr.rf⟩⟩
theorem tw_turn {B n : Nat} {S D : gB} (hI : Iv B S D) (hB : B < 100000) (hn : n < 2147483648) : Tw (B + 60) S D (fun a => fX5_takeTurn a (i3 n)) := by
  have hn0 := hI.1.1
  have hd := hI.1.2.1
  obtain ⟨X, hX⟩ : ∃ X, X = n / 8 := ⟨_, rfl⟩
  have hx : X < 268435456 := by omega
  have hq : n % 8 < 8 := Nat.mod_lt _ (by omega)
  have C0 : ∀ a m, fX5_takeTurn a (i3 n) m = _ := fun a m => turnC hn hX
  obtain ⟨k, hk⟩ : ∃ k, k = n % 8 := ⟨_, rfl⟩
  rw [← hk] at C0 hq
  rcases (show k = 0 ∨ k = 1 ∨ k = 2 ∨ k = 3 ∨ k = 4 ∨ k = 5 ∨ (k = 6 ∨ k = 7) by omega) with r | r | r | r | r | r | r
  · subst r
    have c0 : ∀ a m, fX5_takeTurn a (i3 n) m = gCl (fX0_perform (a + 436) 0 (i3 (X % 4)) (i3 (X / 4 % 10000000)) 0 m) fun m4 x5 => some m4 := fun a m => by
      rw [C0, if_pos rfl]
      rfl
    by_cases h10 : S.1 0 < 10
    · refine ⟨nwS S (X % 4) (X / 4 % 10000000), nwD S D, (hI.nw h10 (by omega)).le (by omega), fun a m h => ?_⟩
      obtain ⟨m', s1, s2, s3⟩ := pf0 (p4 := 0) (st := X % 4) (L := X / 4 % 10000000) h hI.1 h10 (by omega) (by omega)
      exact ⟨m', (c0 a m).trans (gClV s1), s2, s3⟩
    · refine Tw.no hI (by omega) (fun a m h => ?_)
      have e := rf0 (p2 := i3 (X % 4)) (p3 := i3 (X / 4 % 10000000)) (p4 := 0) h hI.1
      rw [c0]
      refine gClV (pf_no e ?_)
      rw [decide_eq_false h10]
      cases wi (i3 (X % 4)) 0 3 <;> cases wi (i3 (X / 4 % 10000000)) 0 9999999 <;> decide
  · subst r
    have c0 : ∀ a m, fX5_takeTurn a (i3 n) m = gCl (fX0_perform (a + 436) 1 (i3 (X % 10)) (i3 (X / 16 % 7)) (i3 (X / 128 % 10)) m) fun m4 x5 => some m4 := fun a m => by
      rw [C0, if_neg (by decide), if_pos rfl]
      rfl
    by_cases hc : X % 10 < S.1 0
    · refine ⟨_, D, (hI.wk (c := X % 10) (w := X / 16 % 7) (x := X / 128 % 10) hc (by omega) (by omega)).le (by omega), fun a m h => ?_⟩
      obtain ⟨m', s1, s2, s3⟩ := pf1 (w := X / 16 % 7) (x := X / 128 % 10) h hI.1 hc (by omega) (by omega)
      exact ⟨m', (c0 a m).trans (gClV s1), s2, s3⟩
    · refine Tw.no hI (by omega) (fun a m h => ?_)
      have e := rf1 (p2 := i3 (X % 10)) (p3 := i3 (X / 16 % 7)) (p4 := i3 (X / 128 % 10)) h hI.1
      rw [c0]
      refine gClV (pf_no e ?_)
      rw [hcF hc (by omega)]
      exact show 20001 ≠ 20000 by decide
  · subst r
    have c0 : ∀ a m, Cb (a + 436) S D m → fX5_takeTurn a (i3 n) m = gCl (fX0_perform (a + 436) 2 (i3 (X % 10)) (i3 (S.1 1 + X / 16 % 20)) (i3 (S.1 1 + X / 16 % 20 + X / 512 % 9)) m) fun m4 x5 => some m4 := fun a m h => by
      rw [C0, if_neg (by decide), if_neg (by decide), if_pos rfl, Cx.h1 h, i3a, i3a]
      rfl
    by_cases hc : X % 10 < S.1 0
    · have hcu := hI.1.cust hc
      by_cases hs : (wi (i3 (S.1 1 + X / 16 % 20)) 0 999 && wi (i3 (S.1 1 + X / 16 % 20 + X / 512 % 9)) (i3 (S.1 1 + X / 16 % 20)).toInt 999) = true
      · have hs2 := hs
        rw [Bool.and_eq_true, i3t (by omega)] at hs2
        obtain ⟨x', e1, -, b1, -⟩ := wi_n (a := 0) (b := 999) hs2.1
        rw [i3e (by omega) (by omega)] at e1
        obtain ⟨y', e2, b2, b3, -⟩ := wi_n (a := S.1 1 + X / 16 % 20) (b := 999) hs2.2
        rw [i3e (by omega) (by omega)] at e2
        by_cases h3 : S.2 (X % 10) 14 < 3
        · refine ⟨_, D, (hI.cu (c := X % 10) (hoR_s (x := S.1 1 + X / 16 % 20) (y := S.1 1 + X / 16 % 20 + X / 512 % 9) hcu h3 (by omega) (by omega))).le (by omega), fun a m h => ?_⟩
          obtain ⟨m', s1, s2, s3⟩ := pf2 (x := S.1 1 + X / 16 % 20) (y := S.1 1 + X / 16 % 20 + X / 512 % 9) h hI.1 hc h3 (by omega) (by omega)
          exact ⟨m', (c0 a m h).trans (gClV s1), s2, s3⟩
        · refine Tw.no hI (by omega) (fun a m h => ?_)
          obtain ⟨z, hz, e⟩ := rf2 (p2 := i3 (X % 10)) (p3 := i3 (S.1 1 + X / 16 % 20)) (p4 := i3 (S.1 1 + X / 16 % 20 + X / 512 % 9)) h hI.1
          show fX5_takeTurn a (i3 n) m = _
          rw [c0 a m h]
          refine gClV (pf_no e ?_)
          rw [hz _ rfl hc, decide_eq_false h3, hs, hcT hc hn0]
          exact show 20003 ≠ 20000 by decide
      · have hs2 := Bool.eq_false_iff.mpr hs
        refine Tw.no hI (by omega) (fun a m h => ?_)
        obtain ⟨z, hz, e⟩ := rf2 (p2 := i3 (X % 10)) (p3 := i3 (S.1 1 + X / 16 % 20)) (p4 := i3 (S.1 1 + X / 16 % 20 + X / 512 % 9)) h hI.1
        show fX5_takeTurn a (i3 n) m = _
        rw [c0 a m h]
        refine gClV (pf_no e ?_)
        rw [hs2, hcT hc hn0]
        exact show 20002 ≠ 20000 by decide
    · refine Tw.no hI (by omega) (fun a m h => ?_)
      obtain ⟨z, hz, e⟩ := rf2 (p2 := i3 (X % 10)) (p3 := i3 (S.1 1 + X / 16 % 20)) (p4 := i3 (S.1 1 + X / 16 % 20 + X / 512 % 9)) h hI.1
      show fX5_takeTurn a (i3 n) m = _
      rw [c0 a m h]
      refine gClV (pf_no e ?_)
      rw [hcF hc (by omega)]
      exact show 20001 ≠ 20000 by decide
  · subst r
    obtain ⟨v, hv1, hv2⟩ : ∃ v : Nat, (if i3 (X / 32 % 3) = i3 0 then i3 1 else i3 0) = i3 v ∧ v ≤ 1 := by
      by_cases c : i3 (X / 32 % 3) = i3 0
      · rw [if_pos c]; exact ⟨1, rfl, by omega⟩
      · rw [if_neg c]; exact ⟨0, rfl, by omega⟩
    have hv4 : (if i3 v = 1 then (1 : Int32) else 0) = i3 v := by
      rcases (show v = 0 ∨ v = 1 by omega) with r | r <;> subst r <;> rfl
    refine ⟨_, D, (hI.sh (st := X % 4) (w := X / 4 % 7) (by omega) (by omega) hv2).le (by omega), fun a m h => ?_⟩
    obtain ⟨m', s1, s2, s3⟩ := pf4 (st := X % 4) (w := X / 4 % 7) h hI (by omega) (by omega) hv4 hv2
    refine ⟨m', ?_, s2, s3⟩
    show fX5_takeTurn a (i3 n) m = _
    rw [C0, if_neg (by decide), if_neg (by decide), if_neg (by decide), if_pos rfl, hv1]
    exact gClV s1
  · subst r
    refine ⟨_, D, (hI.sw (s := X % 4) (t := X / 4 % 4) (by omega) (by omega)).le (by omega), fun a m h => ?_⟩
    obtain ⟨m', s1, s2, s3⟩ := pf5 (p4 := 0) (s := X % 4) (t := X / 4 % 4) h hI.1 (by omega) (by omega)
    refine ⟨m', ?_, s2, s3⟩
    show fX5_takeTurn a (i3 n) m = _
    rw [C0, if_neg (by decide), if_neg (by decide), if_neg (by decide), if_neg (by decide), if_pos rfl]
    exact gClV s1
  · subst r
    have c0 : ∀ a m, fX5_takeTurn a (i3 n) m = _ := fun a m => by
      rw [C0, if_neg (by decide), if_neg (by decide), if_neg (by decide), if_neg (by decide), if_neg (by decide), if_pos rfl]
    by_cases q : i3 (X / 128 % 2) = i3 0
    · have ho : stOk 0 (X % 100) := Or.inl ⟨rfl, by omega⟩
      refine ⟨_, D, (hI.st ho).le (by omega), fun a m h => ?_⟩
      obtain ⟨m', s1, s2, s3⟩ := pf6 (p4 := 0) h ho
      refine ⟨m', ?_, s2, s3⟩
      show fX5_takeTurn a (i3 n) m = _
      rw [c0, if_pos q]
      exact gClV s1
    · have ho : stOk (1 + X % 3) (X / 4 % 10) := by unfold stOk; omega
      refine ⟨_, D, (hI.st ho).le (by omega), fun a m h => ?_⟩
      obtain ⟨m', s1, s2, s3⟩ := pf6 (p4 := 0) h ho
      refine ⟨m', ?_, s2, s3⟩
      show fX5_takeTurn a (i3 n) m = _
      rw [c0, if_neg q]
      exact gClV s1
  · have c0 : ∀ a m, fX5_takeTurn a (i3 n) m = gCl (fX0_perform (a + 436) 7 (i3 (1 + X % 9)) 0 0 m) fun m43 x44 => some m43 := fun a m => by
      rcases r with r | r <;> subst r
      · rw [C0, if_neg (by decide), if_neg (by decide), if_neg (by decide), if_neg (by decide), if_neg (by decide), if_neg (by decide)]
        rfl
      · rw [C0, if_neg (by decide), if_neg (by decide), if_neg (by decide), if_neg (by decide), if_neg (by decide), if_neg (by decide)]
        rfl
    refine ⟨_, _, (hI.days (1 + X % 9)).1.le (by omega), fun a m h => ?_⟩
    obtain ⟨m', s1, s2, s3⟩ := pf7 (p3 := 0) (p4 := 0) (p := 1 + X % 9) h hI (by omega) (by omega) (by omega)
    exact ⟨m', (c0 a m).trans (gClV s1), s2, s3⟩
theorem rndN (s : Int64) : ∃ n : Nat, (s.toUInt64 >>> ((33 : Int32).toInt64.toUInt64 &&& Int64.toUInt64 63)).toInt64.toInt32 = i3 n ∧ n < 2147483648 := by
  have e : ((33 : Int32).toInt64.toUInt64 &&& Int64.toUInt64 63) = 33 := by decide
  rw [e]
  generalize hu : s.toUInt64 >>> 33 = u
  have h1 : u.toNat < 2147483648 := by
    rw [← hu, UInt64.toNat_shiftRight]
    have := s.toUInt64.toNat_lt
    rw [show UInt64.toNat 33 % 64 = 33 from rfl, Nat.shiftRight_eq_div_pow]
    omega
  have h2 : u.toInt64.toInt32.toInt = (u.toNat : Int) := by
    have h3 : u.toInt64.toInt = (u.toNat : Int) := by
      show u.toBitVec.toInt = _
      rw [BitVec.toInt_eq_toNat_bmod, UInt64.toNat_toBitVec, Int.bmod_eq_of_le (by omega) (by omega)]
    rw [Int64.toInt_toInt32, h3, Int.bmod_eq_of_le (by omega) (by omega)]
  obtain ⟨n, a1, a2, a3⟩ := i3x u.toInt64.toInt32 (by omega)
  exact ⟨n, a1, a2⟩
def finC (a : Nat) (m : gM) : Option (gM × Nat × Int32) := gCl (fX0_sumOf (a + 436) 3 m) fun m11 x12 => gCl (fX0_sumOf (a + 128) 3 m11) fun m15 x16 => gLt ((x12 - x16)) fun x18 => gCl (fX0_sumOf (a + 436) 2 m15) fun m20 x21 => some (m20, 0, ((1000 * (x18 - x18 / 1000 * 1000)) + x21))
theorem simL {B p : Nat} (hB : B + 60 * 60 < 100000) (hp : p ≤ 60) : ∀ (f j k : Nat) (seed : Int64) (S D : gB), k + j = p → j < f → Iv (B + 60 * k) S D → ∃ S' D', Iv (B + 60 * p) S' D' ∧ ∀ a m, Cb (a + 436) S D m → ∃ m', fX5_simulate_L27 a (i3 p) f seed (i3 k) m = finC a m' ∧ Cb (a + 436) S' D' m' ∧ Fr (a + 436) 308 m m' := by
  intro f
  induction f with
  | zero => intro j k seed S D h1 h2; omega
  | succ f ih =>
    intro j k seed S D h1 h2 hI
    cases j with
    | zero =>
      have e : k = p := by omega
      subst e
      refine ⟨S, D, hI, fun a m h => ⟨m, ?_, h, Fr.rf⟩⟩
      unfold fX5_simulate_L27
      rw [if_pos (by rw [i3le (by omega) (by omega)]; omega)]
      rfl
    | succ j =>
      obtain ⟨n, en, hn⟩ := rndN ((seed * 6364136223846793005) + 1442695040888963407)
      obtain ⟨S1, D1, v1, c1⟩ := tw_turn hI (by omega) hn
      obtain ⟨S2, D2, v2, c2⟩ := ih j (k + 1) ((seed * 6364136223846793005) + 1442695040888963407) S1 D1 (by omega) (by omega) (v1.le (by omega))
      refine ⟨S2, D2, v2, fun a m h => ?_⟩
      obtain ⟨m1, a1, a2, a3⟩ := c1 a m h
      obtain ⟨m2, b1, b2, b3⟩ := c2 a m1 a2
      refine ⟨m2, ?_, b2, a3.tr b3⟩
      unfold fX5_simulate_L27
      dsimp only at a1
      rw [iLe (by omega) (by omega), if_neg (by omega), en, a1, gCvI, gLtI, n1, i3a]
      exact b1
/-- what a simulation answers: by the book alone -/
theorem c_sim {p : Nat} {seed : Int64} {S D : gB} (hI : Iv 90000 S D) (hp : p ≤ 60) : ∃ r : Int32, ∀ a m, Cb (a + 128) S D m → ∃ m', gCv (fX0_copyFrom (a + 436) (a + 128) m) (fun m7 => fX5_simulate_L27 a (i3 p) gFU seed 0 m7) = some (m', 0, r) ∧ Fr (a + 436) 308 m m' := by
  obtain ⟨S', D', v1, c1⟩ := simL (B := 90000) (p := p) (by omega) hp gFU p 0 seed S D (by omega) (by show p < 5000; omega) hI
  refine ⟨((1000 * ((i3 (D'.1 3) - i3 (D.1 3)) - (i3 (D'.1 3) - i3 (D.1 3)) / 1000 * 1000)) + i3 (sm (fun c => D'.2 c 8) (S'.1 0))), fun a m h => ?_⟩
  obtain ⟨m1, s1, s2, s3⟩ := c_copy (b := a + 436) h hI.1 (by omega)
  obtain ⟨m2, t1, t2, t3⟩ := c1 a m1 s2
  have hb2 : Cb (a + 128) S D m2 := Cx.fr (Cx.fr h hI.1.1 s3 (by omega)) hI.1.1 t3 (by omega)
  refine ⟨m2, ?_, s3.tr t3⟩
  rw [s1, gCvI, n0, t1]
  unfold finC
  rw [(c_sums t2 v1).2.1, gClI, (c_sums hb2 hI).2.1, gClI, gLtI, (c_sums t2 v1).1, gClI]
