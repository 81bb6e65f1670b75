/-! a command, done alike: holidays, credits, why -/
theorem tb7 {B n r : Nat} {S D : gB} (hI : Iv B S D) (hn : n < 1000000) (hk : 7 = n / 100000) (hr : r = n % 100000) : TwB (B + 60) S D (fX5_succeeds (i3 n)) (fX6_command (i3 7) (i3 r)) := by
  have hr2 : r < 100000 := by omega
  have hn0 := hI.1.1
  have C0 : ∀ m, fX5_succeeds (i3 n) m = _ := fun m => by rw [succC hn hk hr, if_neg (by decide), if_neg (by decide), if_neg (by decide), if_neg (by decide), if_neg (by decide), if_neg (by decide), if_pos (by decide)]
  have R0 : ∀ m, fX6_command (i3 7) (i3 r) m = _ := fun m => by rw [commM hr2, if_neg (by decide), if_neg (by decide), if_neg (by decide), if_neg (by decide), if_neg (by decide), if_neg (by decide), if_pos (by decide)]
  by_cases c : r / 100 % 100 = 0
  · have e1 : r % 10000 = r % 100 := by omega
    by_cases hs : r / 10000 < S.1 0
    · have hcr := hI.2.1 (r / 10000) hs
      by_cases q : i3 (r % 100) < i3 (D.2 (r / 10000) 8)
      · refine tb_no hI (by omega) (fun m h => ?_) (fun m h => ?_)
        · rw [C0, c, if_pos (by decide), c_has h hI.1, gClI, hcT hs hn0, if_neg (by decide), gEl10 (by omega), (Cx.c h hs).f1, gLtI, if_pos q]
          rfl
        · rw [R0, e1, n100, iLe (by omega) (by omega), if_neg (by omega), m_has h hI.1, gClI, hcT hs hn0, if_neg (by decide), n8, m_ofD h (by omega) (by omega) (by omega), gClI, if_pos q]
          rfl
      · refine ⟨S, D, true, hI.le (by omega), fun m h => ⟨m, ?_, h, Fr.rf⟩, fun m h => ⟨m, ?_, h, Fr.rf⟩⟩
        · rw [C0, c, if_pos (by decide), c_has h hI.1, gClI, hcT hs hn0, if_neg (by decide), gEl10 (by omega), (Cx.c h hs).f1, gLtI, if_neg q]
          rfl
        · rw [R0, e1, n100, iLe (by omega) (by omega), if_neg (by omega), m_has h hI.1, gClI, hcT hs hn0, if_neg (by decide), n8, m_ofD h (by omega) (by omega) (by omega), gClI, if_neg q]
          rfl
    · refine tb_no hI (by omega) (fun m h => ?_) (fun m h => ?_)
      · rw [C0, c, if_pos (by decide), c_has h hI.1, gClI, hcF hs (by omega)]
        rfl
      · rw [R0, e1, n100, iLe (by omega) (by omega), if_neg (by omega), m_has h hI.1, gClI, hcF hs (by omega)]
        rfl
  · refine tb_no hI (by omega) (fun m h => ?_) (fun m h => ?_)
    · rw [C0, n0, iEq (by omega) (by omega), if_neg c]
      rfl
    · rw [R0, n100, iLe (by omega) (by omega), if_pos (by omega)]
      rfl
theorem tb8 {B n r : Nat} {S D : gB} (hI : Iv B S D) (hB : B < 100000) (hn : n < 1000000) (hk : 8 = n / 100000) (hr : r = n % 100000) : TwB (B + 60) S D (fX5_succeeds (i3 n)) (fX6_command (i3 8) (i3 r)) := by
  have hr2 : r < 100000 := by omega
  have hn0 := hI.1.1
  have C0 : ∀ m, fX5_succeeds (i3 n) m = _ := fun m => by rw [succC hn hk hr, if_neg (by decide), if_neg (by decide), if_neg (by decide), if_neg (by decide), if_neg (by decide), if_neg (by decide), if_neg (by decide), if_pos (by decide)]
  have R0 : ∀ m, fX6_command (i3 8) (i3 r) m = _ := fun m => by rw [commM hr2, if_neg (by decide), if_neg (by decide), if_neg (by decide), if_neg (by decide), if_neg (by decide), if_neg (by decide), if_neg (by decide), if_pos (by decide)]
  by_cases c : r / 10 % 1000 = 0
  · have e1 : r % 10000 = r % 10 := by omega
    by_cases hs : r / 10000 < S.1 0
    · obtain ⟨z, z1, z2⟩ := why2 (b := 436) (a := 6082) hI hB hs
      by_cases q : z = i3 (r % 10)
      · refine ⟨S, D, true, hI.le (by omega), fun m h => ?_, fun m h => ⟨m, ?_, h, Fr.rf⟩⟩
        · obtain ⟨m', s1, s2, s3⟩ := z1 m h
          refine ⟨m', ?_, s2, s3⟩
          rw [C0, c, if_pos (by decide), c_has h hI.1, gClI, hcT hs hn0, if_neg (by decide), s1, gClI, if_pos q]
          rfl
        · rw [R0, e1, n10, iLe (by omega) (by omega), if_neg (by omega), m_has h hI.1, gClI, hcT hs hn0, if_neg (by decide), z2 m h, gClI, if_pos q]
          rfl
      · refine ⟨S, D, false, hI.le (by omega), fun m h => ?_, fun m h => ⟨m, ?_, h, Fr.rf⟩⟩
        · obtain ⟨m', s1, s2, s3⟩ := z1 m h
          refine ⟨m', ?_, s2, s3⟩
          rw [C0, c, if_pos (by decide), c_has h hI.1, gClI, hcT hs hn0, if_neg (by decide), s1, gClI, if_neg q]
          rfl
        · rw [R0, e1, n10, iLe (by omega) (by omega), if_neg (by omega), m_has h hI.1, gClI, hcT hs hn0, if_neg (by decide), z2 m h, gClI, if_neg q]
          rfl
    · refine tb_no hI (by omega) (fun m h => ?_) (fun m h => ?_)
      · rw [C0, c, if_pos (by decide), c_has h hI.1, gClI, hcF hs (by omega)]
        rfl
      · rw [R0, e1, n10, iLe (by omega) (by omega), if_neg (by omega), m_has h hI.1, gClI, hcF hs (by omega)]
        rfl
  · refine tb_no hI (by omega) (fun m h => ?_) (fun m h => ?_)
    · rw [C0, n0, iEq (by omega) (by omega), if_neg c]
      rfl
    · rw [R0, n10, iLe (by omega) (by omega), if_pos (by omega)]
      rfl
theorem tb3 {B n r : Nat} {S D : gB} (hI : Iv B S D) (hn : n < 1000000) (hk : 3 = n / 100000) (hr : r = n % 100000) : TwB (B + 60) S D (fX5_succeeds (i3 n)) (fX6_command (i3 3) (i3 r)) := by
  have hr2 : r < 100000 := by omega
  have hn0 := hI.1.1
  have C0 : ∀ m, fX5_succeeds (i3 n) m = _ := fun m => by rw [succC hn hk hr, if_neg (by decide), if_neg (by decide), if_pos (by decide)]
  have R0 : ∀ m, fX6_command (i3 3) (i3 r) m = _ := fun m => by rw [commM hr2, if_neg (by decide), if_neg (by decide), if_pos (by decide)]
  by_cases hs : r / 10000 < S.1 0
  · have hCU := hI.1.cust hs
    by_cases hp : r / 100 % 100 ≤ r % 100
    · by_cases h3 : S.2 (r / 10000) 14 < 3
      · refine ⟨_, D, true, (hI.cu (c := r / 10000) (hoR_s (x := r / 100 % 100) (y := r % 100) hCU h3 (by omega) (by omega))).le (by omega), fun m h => ?_, fun m h => ?_⟩
        · obtain ⟨m', s1, s2, s3⟩ := pf2 (x := r / 100 % 100) (y := r % 100) h hI.1 hs h3 (by omega) (by omega)
          refine ⟨m', ?_, s2, s3⟩
          rw [C0]
          exact aC (by omega) s1
        · obtain ⟨m', s1, s2, s3⟩ := m_hol (B := 0) (c := r / 10000) (x := r / 100 % 100) (y := r % 100) h (by omega) h3
          refine ⟨m', ?_, s2, s3⟩
          rw [R0, m_has h hI.1, gClI, hcT hs hn0, if_neg (by decide), iLt (by omega) (by omega), if_neg (by omega), n14, m_ofS h (by omega) (by omega) (by omega), gClI, n3, iLe (by omega) (by omega), if_neg (by omega), s1, gClI, n0, iLe (by omega) (by omega), if_neg (by omega)]
          rfl
      · refine tb_no hI (by omega) (fun m h => ?_) (fun m h => ?_)
        · obtain ⟨z, hz, e⟩ := rf2 (p2 := i3 (r / 10000)) (p3 := i3 (r / 100 % 100)) (p4 := i3 (r % 100)) h hI.1
          rw [C0]
          refine aN (pf_no e ?_)
          rw [hz _ rfl hs, decide_eq_false h3]
          cases hcu S (i3 (r / 10000)) <;> cases (wi (i3 (r / 100 % 100)) 0 999 && wi (i3 (r % 100)) (i3 (r / 100 % 100)).toInt 999) <;> decide
        · rw [R0, m_has h hI.1, gClI, hcT hs hn0, if_neg (by decide), iLt (by omega) (by omega), if_neg (by omega), n14, m_ofS h (by omega) (by omega) (by omega), gClI, n3, iLe (by omega) (by omega), if_pos (by omega)]
          rfl
    · refine tb_no hI (by omega) (fun m h => ?_) (fun m h => ?_)
      · obtain ⟨z, hz, e⟩ := rf2 (p2 := i3 (r / 10000)) (p3 := i3 (r / 100 % 100)) (p4 := i3 (r % 100)) h hI.1
        rw [C0]
        refine aN (pf_no e ?_)
        rw [i3t (by omega), show wi (i3 (r % 100)) ((r / 100 % 100 : Nat) : Int) 999 = false from wiF (a := r / 100 % 100) (b := 999) (by omega) (by omega), Bool.and_false]
        cases hcu S (i3 (r / 10000)) <;> cases z <;> decide
      · rw [R0, m_has h hI.1, gClI, hcT hs hn0, if_neg (by decide), iLt (by omega) (by omega), if_pos (by omega)]
        rfl
  · refine tb_no hI (by omega) (fun m h => ?_) (fun m h => ?_)
    · obtain ⟨z, hz, e⟩ := rf2 (p2 := i3 (r / 10000)) (p3 := i3 (r / 100 % 100)) (p4 := i3 (r % 100)) h hI.1
      rw [C0]
      refine aN (pf_no e ?_)
      rw [hcF hs (by omega)]
      exact show 20001 ≠ 20000 by decide
    · rw [R0, m_has h hI.1, gClI, hcF hs (by omega)]
      rfl
theorem tb {B n : Nat} {S D : gB} (hI : Iv B S D) (hB : B < 100000) (hn : n < 1000000) : TwB (B + 60) S D (fX5_succeeds (i3 n)) (fX6_command (i3 (n / 100000)) (i3 (n % 100000))) := by
  obtain ⟨k, hk⟩ : ∃ k, k = n / 100000 := ⟨_, rfl⟩
  obtain ⟨r, hr⟩ : ∃ r, r = n % 100000 := ⟨_, rfl⟩
  rw [← hk, ← hr]
  rcases (show k = 0 ∨ k = 1 ∨ k = 2 ∨ k = 3 ∨ k = 4 ∨ k = 5 ∨ k = 6 ∨ k = 7 ∨ k = 8 ∨ k = 9 by omega) with q | q | q | q | q | q | q | q | q | q <;> subst q
  · exact tb0 hI hn hk hr
  · exact tb1 hI hB hn hk hr
  · exact tb2 hI hn hk hr
  · exact tb3 hI hn hk hr
  · exact tb4 hI hn hk hr
  · exact tb5 hI hn hk hr
  · exact tb6 hI hn hk hr
  · exact tb7 hI hn hk hr
  · exact tb8 hI hB hn hk hr
  · exact tb9 hI hn hk hr
