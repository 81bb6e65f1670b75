/-! looks at the book -/
theorem gDemT {e : Nat} {m : gM} {k : Option (gM × Nat × Int32)} : gDem e (bI true) m k = k := rfl
theorem gDemF {e : Nat} {m : gM} {k : Option (gM × Nat × Int32)} : gDem e (bI false) m k = some (m, e, 0) := rfl
theorem m_reqT {β : Type} (m : gM) (k : gM → Int32 → Option β) : (gLt ((if bI true = 0 then 1 else 0) : Int32) fun x4 => gCl (fX6_refused x4 m) k) = k (upd m (5693 + 0) 0) 0 := by
  rw [gLtI, if_neg (by decide), r_ok, gClI]
theorem m_reqF {β : Type} (m : gM) (k : gM → Int32 → Option β) : (gLt ((if bI false = 0 then 1 else 0) : Int32) fun x4 => gCl (fX6_refused x4 m) k) = k (upd m (5693 + 0) 1) 1 := by
  rw [gLtI, if_pos (by decide), r_no (by decide), gClI]
theorem g9 : gP9 Inv := by
  intro T m a1 hT hi
  obtain ⟨S, D, hb⟩ := hi.B
  have hc : fX5_isWithin a1 0 3 m = some (m, bI (wi a1 0 3)) := by rw [c_in]; rfl
  cases hw : wi a1 0 3 with
  | true =>
    obtain ⟨i, e, h1, h2, h3⟩ := wi_n (a := 0) (b := 3) hw
    rw [hw] at hc
    refine q_ok (r := i3 (S.1 (16 + i))) (m1 := m) (m2 := upd m (5693 + 0) 0) hi ?_ ?_ upd_s Sc.th
    · unfold fX5_round
      rw [hc, gClI, gDemT, e, hb.1.rO (by omega)]
    · unfold fX6_round
      rw [m_st, hw, gClI, m_reqT, if_pos rfl, e, n16, i3a, m_rS (hb.sc Sc.th).2.1 (by omega) (by omega)]
  | false =>
    rw [hw] at hc
    refine q_no (r := 0) (k := 1) (e := 1) hi ?_ (by omega) rfl ?_
    · unfold fX5_round
      rw [hc, gClI, gDemF]
    · unfold fX6_round
      rw [m_st, hw, gClI, m_reqF, if_neg (by decide)]
theorem g10 : gP10 Inv := by
  intro T m a1 hT hi
  obtain ⟨S, D, hb⟩ := hi.B
  have hm : fX6_in a1.toInt64 0 4 m = some (m, bI (wi a1 0 4)) := by rw [m_inI]; rfl
  cases hw : wi a1 0 4 with
  | true =>
    obtain ⟨i, e, h1, h2, h3⟩ := wi_n (a := 0) (b := 4) hw
    rw [hw] at hm
    refine q_ok (r := i3 (S.1 (11 + i))) (m1 := m) (m2 := upd m (5693 + 0) 0) hi ?_ ?_ upd_s Sc.th
    · unfold fX5_setting
      rw [c_se, hw, gClI, gDemT, e, hb.1.rS (by omega)]
    · unfold fX6_setting
      rw [hm, gClI, m_reqT, if_pos rfl, e, n11, i3a, m_rS (hb.sc Sc.th).2.1 (by omega) (by omega)]
  | false =>
    rw [hw] at hm
    refine q_no (r := 0) (k := 1) (e := 2) hi ?_ (by omega) rfl ?_
    · unfold fX5_setting
      rw [c_se, hw, gClI, gDemF]
    · unfold fX6_setting
      rw [hm, gClI, m_reqF, if_neg (by decide)]
theorem g8 : gP8 Inv := by
  intro T m a1 a2 hT hi
  obtain ⟨S, D, hb⟩ := hi.B
  have no : (wi a1 0 3 && wi a2 0 6) = false → fX5_isClosed a1 a2 m = some (m, 1, 0) ∧ fX6_isClosed a1 a2 m = some (upd m (5693 + 0) 1, 0) := by
    intro hf
    unfold fX5_isClosed fX6_isClosed
    rw [c_st, gClI, m_st, gClI, gLtI, gLtI, iB0, iB0, c_wk, gClI, m_wk, gClI, iB0, iB0]
    cases h1 : wi a1 0 3 with
    | false => exact ⟨rfl, rfl⟩
    | true =>
      rw [h1] at hf
      have h2 : wi a2 0 6 = false := hf
      rw [h2]
      exact ⟨rfl, rfl⟩
  cases hw : (wi a1 0 3 && wi a2 0 6) with
  | true =>
    rw [Bool.and_eq_true] at hw
    obtain ⟨i, e, h1, h2, h3⟩ := wi_n (a := 0) (b := 3) hw.1
    obtain ⟨j, e', h1', h2', h3'⟩ := wi_n (a := 0) (b := 6) hw.2
    have h5 := hb.2.2.1.2.2.2.2.1 (7 * i + j) (by omega)
    rw [← Nat.add_assoc] at h5
    refine q_ok (r := i3 (S.1 (20 + 7 * i + j))) (m1 := m) (m2 := upd m (5693 + 0) 0) hi ?_ ?_ upd_s Sc.th
    · unfold fX5_isClosed
      rw [c_st, hw.1, gClI, gLtI, iB0, if_pos rfl, c_wk, hw.2, gClI, iB0, if_pos rfl]
      show gDem 1 (bI true) m _ = _
      rw [gDemT, e, e', c_shut hb.1 hb.2.2.1 (by omega) (by omega), gClI]
      rcases (show S.1 (20 + 7 * i + j) = 0 ∨ S.1 (20 + 7 * i + j) = 1 by omega) with r | r <;> rw [r] <;> rfl
    · unfold fX6_isClosed
      rw [m_st, hw.1, gClI, gLtI, iB0, if_pos rfl, m_wk, hw.2, gClI, iB0, if_pos rfl]
      dsimp only
      rw [r_ok, gClI, if_pos rfl, e, e', n20, n7, i3m, i3a, i3a, m_rS (hb.sc Sc.th).2.1 (by omega) (by omega)]
  | false => exact q_no (r := 0) (k := 1) (e := 1) hi (no hw).1 (by omega) rfl (no hw).2
theorem g6 : gP6 Inv := by
  intro T m a1 a2 hT hi
  obtain ⟨S, D, hb⟩ := hi.B
  have hn := hb.2.2.1.1
  have no : (hcu S a1 && wi a2 0 6) = false → fX5_ordered a1 a2 m = some (m, 1, 0) ∧ fX6_ordered a1 a2 m = some (upd m (5693 + 0) 1, 0) := by
    intro hf
    unfold fX5_ordered fX6_ordered
    rw [c_has hb.1 hb.2.2.1, gClI, m_has hb.2.1 hb.2.2.1, gClI, gLtI, gLtI, iB0, iB0, c_wk, gClI, m_wk, gClI, iB0, iB0]
    cases h1 : hcu S a1 with
    | false => exact ⟨rfl, rfl⟩
    | true =>
      rw [h1] at hf
      have h2 : wi a2 0 6 = false := hf
      rw [h2]
      exact ⟨rfl, rfl⟩
  cases hw : (hcu S a1 && wi a2 0 6) with
  | true =>
    rw [Bool.and_eq_true] at hw
    obtain ⟨i, e, h1⟩ := hcu_x hw.1
    obtain ⟨j, e', h1', h2', h3'⟩ := wi_n (a := 0) (b := 6) hw.2
    refine q_ok (r := i3 (S.2 i (1 + j))) (m1 := m) (m2 := upd m (5693 + 0) 0) hi ?_ ?_ upd_s Sc.th
    · unfold fX5_ordered
      rw [c_has hb.1 hb.2.2.1, hw.1, gClI, gLtI, iB0, if_pos rfl, c_wk, hw.2, gClI, iB0, if_pos rfl]
      show gDem 1 (bI true) m _ = _
      rw [gDemT, e, e', gEl10 (by omega), (hb.1.c h1).rW (by omega)]
    · unfold fX6_ordered
      rw [m_has hb.2.1 hb.2.2.1, hw.1, gClI, gLtI, iB0, if_pos rfl, m_wk, hw.2, gClI, iB0, if_pos rfl]
      dsimp only
      rw [r_ok, gClI, if_pos rfl, e, e', n1, i3a, m_ofS (hb.sc Sc.th).2.1 (by omega) (by omega) (by omega), gClI]
  | false => exact q_no (r := 0) (k := 1) (e := 1) hi (no hw).1 (by omega) rfl (no hw).2
