theorem tb1 {B n r : Nat} {S D : gB} (hI : Iv B S D) (hB : B < 100000) (hn : n < 1000000) (hk : 1 = n / 100000) (hr : r = n % 100000) : TwB (B + 60) S D (fX5_succeeds (i3 n)) (fX6_command (i3 1) (i3 r)) := by
  have hr2 : r < 100000 := by omega
  have hm : ∀ m, fX6_in (i3 r).toInt64 1 60 m = some (m, bI (wi (i3 r) 1 60)) := fun m => by rw [m_inI]; rfl
  have C0 : ∀ m, fX5_succeeds (i3 n) m = _ := fun m => by rw [succC hn hk hr, if_pos (by decide)]
  have R0 : ∀ m, fX6_command (i3 1) (i3 r) m = _ := fun m => by rw [commM hr2, if_pos (by decide), hm, gClI]
  by_cases hp : 1 ≤ r ∧ r ≤ 60
  · obtain ⟨hv, hT1, hT2⟩ := hI.days r
    have e0 : i3 ((daysZ r (S, D)).2.1 3 + (daysZ r (S, D)).2.1 4) - i3 (D.1 3 + D.1 4) = i3 ((daysZ r (S, D)).2.1 3 + (daysZ r (S, D)).2.1 4 - (D.1 3 + D.1 4)) := i3s hT1
    refine ⟨_, _, true, hv.le (by omega), fun m h => ?_, fun m h => ?_⟩
    · obtain ⟨m', s1, s2, s3⟩ := pf7 (p3 := 0) (p4 := 0) (p := r) h hI (by omega) hp.1 hp.2
      refine ⟨m', ?_, s2, s3⟩
      rw [e0] at s1
      rw [C0, show r / 10000 = 0 from by omega, if_pos (by decide), show r / 100 % 100 = 0 from by omega, if_pos (by decide), show r % 100 = r from by omega]
      exact aC (by omega) s1
    · obtain ⟨m', s1, s2, s3⟩ := m_days (p := r) h hI (by omega) (by omega)
      refine ⟨m', ?_, s2, s3⟩
      rw [e0] at s1
      rw [R0, show wi (i3 r) 1 60 = true from wiT (a := 1) (b := 60) (by omega) hp.1 hp.2, if_neg (by decide)]
      exact aM (by omega) s1
  · refine tb_no hI (by omega) (fun m h => ?_) (fun m h => ?_)
    · rw [C0, n0, iEq (by omega) (by omega), iEq (by omega) (by omega)]
      by_cases c1 : r / 10000 = 0
      · rw [if_pos c1]
        by_cases c2 : r / 100 % 100 = 0
        · rw [if_pos c2]
          have e := rf7 (b := 436) (p2 := i3 (r % 100)) (p3 := i3 0) (p4 := i3 0) (m := m)
          refine aN (pf_no e ?_)
          rw [show wi (i3 (r % 100)) 1 60 = false from wiF (a := 1) (b := 60) (by omega) (by omega)]
          exact show 20002 ≠ 20000 by decide
        · rw [if_neg c2]
          rfl
      · rw [if_neg c1]
        rfl
    · rw [R0, show wi (i3 r) 1 60 = false from wiF (a := 1) (b := 60) (by omega) hp]
      rfl
theorem tb6 {B n r : Nat} {S D : gB} (hI : Iv B S D) (hn : n < 1000000) (hk : 6 = n / 100000) (hr : r = n % 100000) : TwB (B + 60) S D (fX5_succeeds (i3 n)) (fX6_command (i3 6) (i3 r)) := by
  have hr2 : r < 100000 := by omega
  have C0 : ∀ m, fX5_succeeds (i3 n) m = _ := fun m => by rw [succC hn hk hr, if_neg (by decide), if_neg (by decide), if_neg (by decide), if_neg (by decide), if_neg (by decide), if_pos (by decide)]
  have R0 : ∀ m, fX6_command (i3 6) (i3 r) m = _ := fun m => by rw [commM hr2, if_neg (by decide), if_neg (by decide), if_neg (by decide), if_neg (by decide), if_neg (by decide), if_pos (by decide), m_se, gClI]
  by_cases c : r / 100 % 100 = 0
  · have e1 : r % 10000 = r % 100 := by omega
    cases hs : seB (i3 (r / 10000)) (i3 (r % 100)) with
    | true =>
      obtain ⟨i, x, q1, q2, ho⟩ := seX hs
      have hi := stOk_i ho
      have hx : x ≤ 99 := by unfold stOk at ho; omega
      rw [i3e (by omega) (by omega)] at q1 q2
      have hold : S.1 (11 + i) < 1000000 := by
        have h2 := hI.1.2.2.1
        rcases (show i = 0 ∨ i = 1 ∨ i = 2 ∨ i = 3 ∨ i = 4 by omega) with t | t | t | t | t <;> subst t <;> simp <;> omega
      rw [← q1, ← q2] at ho
      rw [← q1] at hold
      refine ⟨_, D, true, (hI.st ho).le (by omega), fun m h => ?_, fun m h => ?_⟩
      · obtain ⟨m', s1, s2, s3⟩ := pf6 (p4 := 0) h ho
        refine ⟨m', ?_, s2, s3⟩
        rw [C0, c, if_pos (by decide)]
        exact aC hold s1
      · obtain ⟨m', s1, s2, s3⟩ := m_put (i := r / 10000) (x := r % 100) h (by omega)
        refine ⟨m', ?_, s2, s3⟩
        rw [R0, e1, n100, iLe (by omega) (by omega), if_neg (by omega), hs, if_neg (by decide)]
        exact aM hold s1
    | false =>
      refine tb_no hI (by omega) (fun m h => ?_) (fun m h => ?_)
      · have e := rf6 (b := 436) (p2 := i3 (r / 10000)) (p3 := i3 (r % 100)) (p4 := 0) (m := m)
        rw [C0, c, if_pos (by decide)]
        refine aN (pf_no e ?_)
        rw [hs]
        exact show 20002 ≠ 20000 by decide
      · rw [R0, e1, n100, iLe (by omega) (by omega), if_neg (by omega), hs]
        rfl
  · refine tb_no hI (by omega) (fun m h => ?_) (fun m h => ?_)
    · rw [C0, n0, iEq (by omega) (by omega), if_neg c]
      rfl
    · rw [R0, n100, iLe (by omega) (by omega), if_pos (by omega)]
      rfl
