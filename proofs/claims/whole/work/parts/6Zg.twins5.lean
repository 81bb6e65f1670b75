theorem tb4 {B n r : Nat} {S D : gB} (hI : Iv B S D) (hn : n < 1000000) (hk : 4 = n / 100000) (hr : r = n % 100000) : TwB (B + 60) S D (fX5_succeeds (i3 n)) (fX6_command (i3 4) (i3 r)) := by
  have hr2 : r < 100000 := by omega
  have C0 : ∀ m, fX5_succeeds (i3 n) m = _ := fun m => by rw [succC hn hk hr, if_neg (by decide), if_neg (by decide), if_neg (by decide), if_pos (by decide)]
  have R0 : ∀ m, fX6_command (i3 4) (i3 r) m = _ := fun m => by rw [commM hr2, if_neg (by decide), if_neg (by decide), if_neg (by decide), if_pos (by decide), m_st, gClI]
  by_cases c : r % 1000 < 2
  · obtain ⟨v, hv⟩ : ∃ v, v = r % 1000 := ⟨_, rfl⟩
    have e1 : r % 10 = v := by omega
    have e2 : r / 10 % 100 = 0 := by omega
    have hv1 : v ≤ 1 := by omega
    have hv3 : (if i3 v = 0 then (0 : Int32) else 1) = i3 v := by
      rcases (show v = 0 ∨ v = 1 by omega) with t | t <;> subst t <;> rfl
    have hv4 : (if i3 v = 1 then (1 : Int32) else 0) = i3 v := by
      rcases (show v = 0 ∨ v = 1 by omega) with t | t <;> subst t <;> rfl
    have hv5 : ¬ (1 : Int32) < i3 v := by
      rw [n1, i3lt (by omega) (by omega)]
      omega
    have hv6 : ¬ (2 : Int32) ≤ i3 v := by
      rw [n2, i3le (by omega) (by omega)]
      omega
    by_cases hs : r / 10000 < 4 ∧ r / 1000 % 10 < 7
    · have hS := hI.sh (v := v) hs.1 hs.2 hv1
      have hsum := sm_le (f := fun k => (sH S (20 + 7 * (r / 10000) + r / 1000 % 10) v).1 (20 + 7 * (r / 10000) + k)) (b := 1) (n := 7) (fun i hi => by
        have := hS.1.2.2.2.2.1 (7 * (r / 10000) + i) (by omega)
        rw [← Nat.add_assoc] at this
        exact this)
      refine ⟨_, D, true, hS.le (by omega), fun m h => ?_, fun m h => ?_⟩
      · obtain ⟨m', s1, s2, s3⟩ := pf4 h hI hs.1 hs.2 hv4 hv1
        refine ⟨m', ?_, s2, s3⟩
        rw [C0, e2, if_pos (by decide), e1, if_neg hv5]
        exact aC (by omega) s1
      · obtain ⟨m', s1, s2, s3⟩ := m_close (B := 0) h hs.1 hs.2 hv3
        refine ⟨m', ?_, s2, s3⟩
        rw [R0, ← hv, if_neg hv6, show wi (i3 (r / 10000)) 0 3 = true from wiT (a := 0) (b := 3) (by omega) (by omega) (by omega), if_neg (by decide), m_wk, gClI, show wi (i3 (r / 1000 % 10)) 0 6 = true from wiT (a := 0) (b := 6) (by omega) (by omega) (by omega), if_neg (by decide), hv4, gLtI]
        exact aM (by omega) s1
    · have hw : (wi (i3 (r / 10000)) 0 3 && wi (i3 (r / 1000 % 10)) 0 6) = false := by
        by_cases q : r / 10000 < 4
        · rw [show wi (i3 (r / 1000 % 10)) 0 6 = false from wiF (a := 0) (b := 6) (by omega) (by omega), Bool.and_false]
        · rw [show wi (i3 (r / 10000)) 0 3 = false from wiF (a := 0) (b := 3) (by omega) (by omega), Bool.false_and]
      refine tb_no hI (by omega) (fun m h => ?_) (fun m h => ?_)
      · have e := rf4 (b := 436) (p2 := i3 (r / 10000)) (p3 := i3 (r / 1000 % 10)) (p4 := i3 v) (m := m)
        rw [C0, e2, if_pos (by decide), e1, if_neg hv5]
        refine aN (pf_no e ?_)
        rw [hw]
        exact show 20001 ≠ 20000 by decide
      · rw [R0, ← hv, if_neg hv6]
        cases h1 : wi (i3 (r / 10000)) 0 3 with
        | false => rfl
        | true =>
          rw [h1] at hw
          have h2 : wi (i3 (r / 1000 % 10)) 0 6 = false := hw
          rw [if_neg (by decide), m_wk, gClI, h2]
          rfl
  · refine tb_no hI (by omega) (fun m h => ?_) (fun m h => ?_)
    · rw [C0, n0, n1, iEq (by omega) (by omega), iLt (by omega) (by omega)]
      by_cases d : r / 10 % 100 = 0
      · rw [if_pos d, if_pos (by omega)]
        rfl
      · rw [if_neg d]
        rfl
    · rw [R0, n2, iLe (by omega) (by omega), if_pos (by omega)]
      rfl
