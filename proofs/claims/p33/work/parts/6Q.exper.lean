/-! when is it clear -/
def clr (z : gB × gB) (c : Nat) : Nat → Nat → Int32
  | 0, _ => -1
  | j + 1, k => if (daysZ k z).2.2 c 8 = 0 then i3 k else clr z c j (k + 1)
theorem daysN {B : Nat} {S D : gB} (h : Iv B S D) (k : Nat) : (daysZ k (S, D)).1.1 0 = S.1 0 := by
  have := rnd_len (h.days k).1.1
  rw [daysZ_rnd, rnd_len h.1] at this
  exact this.symm
theorem c_clr {a B c : Nat} {S D : gB} (hI : Iv B S D) (hB : B < 100000) (hc : c < S.1 0) : ∀ (f j k : Nat) (m : gM), k + j = 201 → j < f → Cb (a + 436) (daysZ k (S, D)).1 (daysZ k (S, D)).2 m → ∃ m', fX5_clearIn_L24 a (i3 c) f (i3 k) m = some (m', 0, clr (S, D) c j k) ∧ Fr (a + 436) 308 m m' := by
  have hn := hI.1.1
  intro f
  induction f with
  | zero => intro j k m h1 h2; omega
  | succ f ih =>
    intro j k m h1 h2 h
    unfold fX5_clearIn_L24
    rw [n200, iLt (by omega) (by omega)]
    cases j with
    | zero =>
      rw [if_pos (by omega)]
      exact ⟨m, rfl, Fr.rf⟩
    | succ j =>
      have hv := (hI.days k).1
      have eN := daysN hI k
      have hcr := hv.2.1 c (by omega)
      rw [if_neg (by omega), gEl10 (by omega), (Cx.c h (c := c) (by omega)).f1, gLtI, n0, iEq (by omega) (by omega)]
      unfold clr
      by_cases q : (daysZ k (S, D)).2.2 c 8 = 0
      · rw [if_pos q, if_pos q]
        exact ⟨m, rfl, Fr.rf⟩
      · obtain ⟨m1, s1, s2, s3⟩ := c_days (p := 1) h hv (by omega) (by omega)
        rw [if_neg q, if_neg q, n1, s1, gClI, gLtI, i3a]
        have e : daysZ 1 ((daysZ k (S, D)).1, (daysZ k (S, D)).2) = daysZ (k + 1) (S, D) := (daysZ_S k (S, D)).symm
        rw [e] at s2
        obtain ⟨m2, t1, t2⟩ := ih j (k + 1) m1 (by omega) (by omega) s2
        exact ⟨m2, t1, s3.tr t2⟩
/-! a turn by chance -/
theorem gClV {F : Option (gM × Int32)} {m' : gM} {r : Int32} (h : F = some (m', r)) : (gCl F fun m x => some m) = some m' := by
  rw [h, gClI]
theorem i3r2 (a b : Nat) : i3 a - i3 (a / b) * i3 b = i3 (a % b) := by
  rw [i3m, i3s (Nat.div_mul_le_self a b), Nat.mod_def, Nat.mul_comm]
theorem hcF {S : gB} {c : Nat} (hc : ¬ c < S.1 0) (hn : c < 1000) : hcu S (i3 c) = false := by
  unfold hcu wi
  rw [i3t (by omega)]
  exact decide_eq_false (by omega)
theorem wiF {n a b : Nat} (hn : n < 2147483648) (h1 : ¬ (a ≤ n ∧ n ≤ b)) : wi (i3 n) (a : Int) (b : Int) = false := by
  rw [wiN hn]
  exact decide_eq_false h1
theorem turnC {a n X : Nat} {m : gM} (hn : n < 2147483648) (hX : X = n / 8) : fX5_takeTurn a (i3 n) m = (if i3 (n % 8) = i3 0 then gCl (fX0_perform (a + 436) (i3 0) (i3 (X % 4)) (i3 (X / 4 % 10000000)) (i3 0) m) fun m4 x5 => some m4 else (if i3 (n % 8) = i3 1 then gCl (fX0_perform (a + 436) (i3 1) (i3 (X % 10)) (i3 (X / 16 % 7)) (i3 (X / 128 % 10)) m) fun m9 x10 => some m9 else (if i3 (n % 8) = i3 2 then gCl (fX0_perform (a + 436) (i3 2) (i3 (X % 10)) (m (a + 436 + 1) + i3 (X / 16 % 20)) (m (a + 436 + 1) + i3 (X / 16 % 20) + i3 (X / 512 % 9)) m) fun m17 x18 => some m17 else (if i3 (n % 8) = i3 3 then gCl (fX0_perform (a + 436) (i3 4) (i3 (X % 4)) (i3 (X / 4 % 7)) (if i3 (X / 32 % 3) = i3 0 then i3 1 else i3 0) m) fun m25 x26 => some m25 else (if i3 (n % 8) = i3 4 then gCl (fX0_perform (a + 436) (i3 5) (i3 (X % 4)) (i3 (X / 4 % 4)) (i3 0) m) fun m30 x31 => some m30 else (if i3 (n % 8) = i3 5 then (if i3 (X / 128 % 2) = i3 0 then gCl (fX0_perform (a + 436) (i3 6) (i3 0) (i3 (X % 100)) (i3 0) m) fun m39 x40 => some m39 else gCl (fX0_perform (a + 436) (i3 6) (i3 (1 + X % 3)) (i3 (X / 4 % 10)) (i3 0) m) fun m35 x36 => some m35) else gCl (fX0_perform (a + 436) (i3 7) (i3 (1 + X % 9)) (i3 0) (i3 0) m) fun m43 x44 => some m43)))))) := by
  have hx : X < 268435456 := by omega
  subst hX
  unfold fX5_takeTurn
  simp (disch := omega) only [gLtI, n0, n1, n2, n3, n4, n5, n6, n7, n8, n9, n10, n16, n20, n32, n100, n128, n512, n10000000, i3d, i3r2, i3a]