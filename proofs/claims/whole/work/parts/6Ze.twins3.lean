theorem tb2 {B n r : Nat} {S D : gB} (hI : Iv B S D) (hn : n < 1000000) (hk : 2 = n / 100000) (hr : r = n % 100000) : TwB (B + 60) S D (fX5_succeeds (i3 n)) (fX6_command (i3 2) (i3 r)) := by
  have hr2 : r < 100000 := by omega
  have hn0 := hI.1.1
  have C0 : ∀ m, fX5_succeeds (i3 n) m = _ := fun m => by rw [succC hn hk hr, if_neg (by decide), if_pos (by decide)]
  have R0 : ∀ m, fX6_command (i3 2) (i3 r) m = _ := fun m => by rw [commM hr2, if_neg (by decide), if_pos (by decide)]
  by_cases c : r % 100 = 0
  · by_cases hs : r / 10000 < S.1 0 ∧ r / 1000 % 10 < 7
    · have h9 := (hI.1.cust hs.1).2.1 (r / 1000 % 10) hs.2
      refine ⟨_, D, true, (hI.wk (x := r / 100 % 10) hs.1 (by omega) hs.2).le (by omega), fun m h => ?_, fun m h => ?_⟩
      · obtain ⟨m', s1, s2, s3⟩ := pf1 (x := r / 100 % 10) h hI.1 hs.1 hs.2 (by omega)
        refine ⟨m', ?_, s2, s3⟩
        rw [C0, c, if_pos (by decide)]
        exact aC (by omega) s1
      · obtain ⟨m', s1, s2, s3⟩ := m_chg (c := r / 10000) (x := r / 100 % 10) h (by omega) hs.2
        refine ⟨m', ?_, s2, s3⟩
        rw [R0, c, if_pos (by decide), m_has h hI.1, gClI, hcT hs.1 hn0, if_neg (by decide), m_wk, gClI, show wi (i3 (r / 1000 % 10)) 0 6 = true from wiT (a := 0) (b := 6) (by omega) (by omega) (by omega), if_neg (by decide)]
        exact aM (by omega) s1
    · have hw : (hcu S (i3 (r / 10000)) && wi (i3 (r / 1000 % 10)) 0 6) = false := by
        by_cases q : r / 10000 < S.1 0
        · rw [show wi (i3 (r / 1000 % 10)) 0 6 = false from wiF (a := 0) (b := 6) (by omega) (by omega), Bool.and_false]
        · rw [hcF q (by omega), Bool.false_and]
      refine tb_no hI (by omega) (fun m h => ?_) (fun m h => ?_)
      · have e := rf1 (p2 := i3 (r / 10000)) (p3 := i3 (r / 1000 % 10)) (p4 := i3 (r / 100 % 10)) h hI.1
        rw [C0, c, if_pos (by decide)]
        refine aN (pf_no e ?_)
        rw [hw]
        exact show 20001 ≠ 20000 by decide
      · rw [R0, c, if_pos (by decide), m_has h hI.1, gClI]
        cases h1 : hcu S (i3 (r / 10000)) with
        | false => rfl
        | true =>
          rw [h1] at hw
          have h2 : wi (i3 (r / 1000 % 10)) 0 6 = false := hw
          rw [if_neg (by decide), m_wk, gClI, h2]
          rfl
  · refine tb_no hI (by omega) (fun m h => ?_) (fun m h => ?_)
    · rw [C0, n0, iEq (by omega) (by omega), if_neg c]
      rfl
    · rw [R0, n0, iEq (by omega) (by omega), if_neg c]
      rfl
