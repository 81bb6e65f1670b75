/-! the acts' calls -/
theorem g12 : gP12 Inv := by
  intro T m a1 a2 hT hi
  have hi0 := hi
  obtain ⟨S, D, n, f, nx, q, F, w, G, h1, h2, h3, h4⟩ := hi
  have hn := h1.2.2.1.1
  have hr := rf0 (p2 := a1) (p3 := a2) (p4 := 0) h1.1 h1.2.2.1
  have hm : ∀ m, fX6_in a2.toInt64 0 9999999 m = some (m, bI (wi a2 0 9999999)) := fun m => by rw [m_inI]; rfl
  have rc : ∀ m2 : gM, Mr 5824 S D m2 → ∀ (k : Int32 → Option (gM × Int32)), gRd m2 5824 258 0 k = k (i3 (S.1 0)) := fun m2 h k => m_rS h (i := 0) (by omega) (by omega)
  show ∃ m3, gOk [1, 2, 3] (gClX (fX5_act 0 a1 a2 0 m) fun m1 x2 => some (m1, 0, x2)) (fun q => fX6_customer a1 a2 q) m3 ∧ _
  cases w1 : wi a1 0 3 with
  | false =>
    rw [w1] at hr
    refine actNo (e := 1) (kk := 1) hi0 hr (by omega) rfl ?_
    show fX6_customer a1 a2 m = _
    unfold fX6_customer
    rw [m_st, w1, gClI, gLtI]
    rfl
  | true =>
    cases w2 : wi a2 0 9999999 with
    | false =>
      rw [w1, w2] at hr
      refine actNo (e := 2) (kk := 2) hi0 hr (by omega) rfl ?_
      show fX6_customer a1 a2 m = _
      unfold fX6_customer
      rw [m_st, w1, gClI, gLtI, iB0, if_pos rfl, hm, w2, gClI]
      rfl
    | true =>
      obtain ⟨st, e1, -, b1, -⟩ := wi_n (a := 0) (b := 3) w1
      obtain ⟨L, e2, -, b2, -⟩ := wi_n (a := 0) (b := 9999999) w2
      rw [w1, w2] at hr
      by_cases hn10 : S.1 0 < 10
      · rw [decide_eq_true hn10] at hr
        refine actOk (S' := nwS S st L) (D' := nwD S D) (AM := fX6_customerOn 5824 258 a1 a2) (r := i3 (S.1 0)) h1 h2 h3 h4 hr (fun m1 hc => ?_) (fun m2 hm2 => ?_) (fun m4 hm4 => ?_) ?_
        · rw [e1, e2]
          exact pf0 hc h1.2.2.1 hn10 (by omega) (by omega)
        · show fX6_customer a1 a2 m2 = _
          unfold fX6_customer
          rw [m_st, w1, gClI, gLtI, iB0, if_pos rfl, hm, w2, gClI, iB0, if_pos rfl, rc m2 hm2, n10, iLe (by omega) (by omega), if_neg (by omega)]
          dsimp only
          rw [r_ok, gClI, if_pos rfl]
        · rw [e1, e2]
          exact m_cust (B := 0) hm4 hn10 (by omega)
        · exact (h1.2.2.le (by omega)).nw hn10 (by omega)
      · rw [decide_eq_false hn10] at hr
        refine actNo (e := 3) (kk := 3) hi0 hr (by omega) rfl ?_
        show fX6_customer a1 a2 m = _
        unfold fX6_customer
        rw [m_st, w1, gClI, gLtI, iB0, if_pos rfl, hm, w2, gClI, iB0, if_pos rfl, rc m h1.2.1, n10, iLe (by omega) (by omega), if_pos (by omega)]
        dsimp only
        rw [r_no (by decide), gClI, if_neg (by decide)]
theorem g13 : gP13 Inv := by
  intro T m a1 a2 a3 hT hi
  have hi0 := hi
  obtain ⟨S, D, n, f, nx, q, F, w, G, h1, h2, h3, h4⟩ := hi
  have hn := h1.2.2.1.1
  have hr := rf1 (p2 := a1) (p3 := a2) (p4 := a3) h1.1 h1.2.2.1
  have hm : ∀ m, fX6_in a3.toInt64 0 9 m = some (m, bI (wi a3 0 9)) := fun m => by rw [m_inI]; rfl
  show ∃ m3, gOk [1, 2] (gClX (fX5_act 1 a1 a2 a3 m) fun m1 x2 => some (m1, 0, x2)) (fun q => fX6_change a1 a2 a3 q) m3 ∧ _
  cases w1 : hcu S a1 with
  | false =>
    rw [w1] at hr
    refine actNo (e := 1) (kk := 1) hi0 hr (by omega) rfl ?_
    show fX6_change a1 a2 a3 m = _
    unfold fX6_change
    rw [m_has h1.2.1 h1.2.2.1, w1, gClI, gLtI]
    rfl
  | true =>
    cases w2 : wi a2 0 6 with
    | false =>
      rw [w1, w2] at hr
      refine actNo (e := 1) (kk := 1) hi0 hr (by omega) rfl ?_
      show fX6_change a1 a2 a3 m = _
      unfold fX6_change
      rw [m_has h1.2.1 h1.2.2.1, w1, gClI, gLtI, iB0, if_pos rfl, m_wk, w2, gClI]
      rfl
    | true =>
      cases w3 : wi a3 0 9 with
      | false =>
        rw [w1, w2, w3] at hr
        refine actNo (e := 2) (kk := 2) hi0 hr (by omega) rfl ?_
        show fX6_change a1 a2 a3 m = _
        unfold fX6_change
        rw [m_has h1.2.1 h1.2.2.1, w1, gClI, gLtI, iB0, if_pos rfl, m_wk, w2, gClI, iB0, if_pos rfl, hm, w3, gClI]
        rfl
      | true =>
        rw [w1, w2, w3] at hr
        obtain ⟨c, e1, b1⟩ := hcu_x w1
        obtain ⟨d, e2, -, b2, -⟩ := wi_n (a := 0) (b := 6) w2
        obtain ⟨x, e3, -, b3, -⟩ := wi_n (a := 0) (b := 9) w3
        refine actOk (S' := cuS S c (up (S.2 c) (1 + d) x)) (D' := D) (AM := fX6_changeOn 5824 258 a1 a2 a3) (r := i3 (S.2 c (1 + d))) h1 h2 h3 h4 hr (fun m1 hc => ?_) (fun m2 hm2 => ?_) (fun m4 hm4 => ?_) ?_
        · rw [e1, e2, e3]
          exact pf1 hc h1.2.2.1 b1 (by omega) b3
        · show fX6_change a1 a2 a3 m2 = _
          unfold fX6_change
          rw [m_has hm2 h1.2.2.1, w1, gClI, gLtI, iB0, if_pos rfl, m_wk, w2, gClI, iB0, if_pos rfl, hm, w3, gClI, iB0, if_pos rfl]
          dsimp only
          rw [r_ok, gClI, if_pos rfl]
        · rw [e1, e2, e3]
          exact m_chg hm4 (by omega) (by omega)
        · exact (h1.2.2.le (by omega)).wk b1 b3 (by omega)
theorem g14 : gP14 Inv := by
  intro T m a1 a2 a3 hT hi
  have hi0 := hi
  obtain ⟨S, D, n, f, nx, q, F, w, G, h1, h2, h3, h4⟩ := hi
  have hn := h1.2.2.1.1
  obtain ⟨z, hz, hr⟩ := rf2 (p2 := a1) (p3 := a2) (p4 := a3) h1.1 h1.2.2.1
  have hm : ∀ m, fX6_isSpan a2 a3 m = some (m, bI (wi a2 0 999 && wi a3 a2.toInt 999)) := by
    intro m
    unfold fX6_isSpan
    rw [m_inI, gClI, iB0, m_in, Int32.toInt_toInt64, Int32.toInt_toInt64, gClI, iB0]
    show (if wi a2 0 999 = true then (if wi a3 a2.toInt 999 = true then _ else _) else _) = _
    cases wi a2 0 999 <;> cases wi a3 a2.toInt 999 <;> rfl
  show ∃ m3, gOk [1, 2, 3] (gClX (fX5_act 2 a1 a2 a3 m) fun m1 x2 => some (m1, 0, x2)) (fun q => fX6_holiday a1 a2 a3 q) m3 ∧ _
  cases w1 : hcu S a1 with
  | false =>
    rw [w1] at hr
    refine actNo (e := 1) (kk := 1) hi0 hr (by omega) rfl ?_
    show fX6_holiday a1 a2 a3 m = _
    unfold fX6_holiday
    rw [m_has h1.2.1 h1.2.2.1, w1, gClI, gLtI]
    rfl
  | true =>
    obtain ⟨c, e1, b1⟩ := hcu_x w1
    have h14 := (h1.2.2.1.cust b1).2.2.1
    rw [hz c e1 b1, w1] at hr
    cases w2 : (wi a2 0 999 && wi a3 a2.toInt 999) with
    | false =>
      rw [w2] at hr
      refine actNo (e := 2) (kk := 2) hi0 hr (by omega) rfl ?_
      show fX6_holiday a1 a2 a3 m = _
      unfold fX6_holiday
      rw [m_has h1.2.1 h1.2.2.1, w1, gClI, gLtI, iB0, if_pos rfl, hm, w2, gClI]
      rfl
    | true =>
      rw [w2] at hr
      have w3 := w2
      rw [Bool.and_eq_true] at w3
      obtain ⟨x, e2, -, b2, b2'⟩ := wi_n (a := 0) (b := 999) w3.1
      have w4 := w3.2
      rw [e2, i3t b2'] at w4
      obtain ⟨y, e3, b3, b4, -⟩ := wi_n (a := x) (b := 999) w4
      by_cases h3' : S.2 c 14 < 3
      · rw [decide_eq_true h3'] at hr
        refine actOk (S' := cuS S c (hoR (S.2 c) x y)) (D' := D) (AM := fX6_holidayOn 5824 258 a1 a2 a3) (r := i3 (S.2 c 14 + 1)) h1 h2 h3 h4 hr (fun m1 hc => ?_) (fun m2 hm2 => ?_) (fun m4 hm4 => ?_) ?_
        · rw [e1, e2, e3]
          exact pf2 hc h1.2.2.1 b1 h3' b3 b4
        · show fX6_holiday a1 a2 a3 m2 = _
          unfold fX6_holiday
          rw [m_has hm2 h1.2.2.1, w1, gClI, gLtI, iB0, if_pos rfl, hm, w2, gClI, iB0, if_pos rfl, e1, n14, m_ofS hm2 (by omega) (by omega) (by omega), gClI, n3, iLe (by omega) (by omega), if_neg (by omega)]
          dsimp only
          rw [r_ok, gClI, if_pos rfl]
        · rw [e1, e2, e3]
          exact m_hol (B := 0) hm4 (by omega) h3'
        · exact (h1.2.2.le (by omega)).cu (hoR_s (h1.2.2.1.cust b1) h3' (by omega) b4)
      · rw [decide_eq_false h3'] at hr
        refine actNo (e := 3) (kk := 3) hi0 hr (by omega) rfl ?_
        show fX6_holiday a1 a2 a3 m = _
        unfold fX6_holiday
        rw [m_has h1.2.1 h1.2.2.1, w1, gClI, gLtI, iB0, if_pos rfl, hm, w2, gClI, iB0, if_pos rfl, e1, n14, m_ofS h1.2.1 (by omega) (by omega) (by omega), gClI, n3, iLe (by omega) (by omega), if_pos (by omega)]
        dsimp only
        rw [← n3, r_no (by decide), gClI, if_neg (by decide)]
theorem g15 : gP15 Inv := by
  intro T m a1 a2 hT hi
  have hi0 := hi
  obtain ⟨S, D, n, f, nx, q, F, w, G, h1, h2, h3, h4⟩ := hi
  have hn := h1.2.2.1.1
  obtain ⟨z, hz, hr⟩ := rf3 (p2 := a1) (p3 := a2) (p4 := 0) h1.1 h1.2.2.1
  show ∃ m3, gOk [1] (gClX (fX5_act 3 a1 a2 0 m) fun m1 x2 => some (m1, 0, x2)) (fun q => fX6_drop a1 a2 q) m3 ∧ _
  cases w1 : hcu S a1 with
  | false =>
    rw [w1] at hr
    refine actNo (e := 1) (kk := 1) hi0 hr (by omega) rfl ?_
    show fX6_drop a1 a2 m = _
    unfold fX6_drop
    rw [m_has h1.2.1 h1.2.2.1, w1, gClI, gLtI]
    rfl
  | true =>
    obtain ⟨c, e1, b1⟩ := hcu_x w1
    have h14 := (h1.2.2.1.cust b1).2.2.1
    rw [hz c e1 b1, w1] at hr
    have hm : ∀ m, fX6_in a2.toInt64 0 (i3 (S.2 c 14) - 1).toInt64 m = some (m, bI (wi a2 0 ((S.2 c 14 : Int) - 1))) := fun m => by
      rw [m_inI, Int32.toInt_toInt64, i3pred (by omega)]; rfl
    cases w2 : wi a2 0 ((S.2 c 14 : Int) - 1) with
    | false =>
      rw [w2] at hr
      refine actNo (e := 1) (kk := 1) hi0 hr (by omega) rfl ?_
      show fX6_drop a1 a2 m = _
      unfold fX6_drop
      rw [m_has h1.2.1 h1.2.2.1, w1, gClI, gLtI, iB0, if_pos rfl, e1, n14, m_ofS h1.2.1 (by omega) (by omega) (by omega), gClI, hm, w2, gClI]
      rfl
    | true =>
      rw [w2] at hr
      obtain ⟨k, e2, b2, b3, b4⟩ := wi_x w2 (by omega)
      refine actOk (S' := cuS S c (drR (S.2 c) k)) (D' := D) (AM := fX6_dropOn 5824 258 a1 a2) (r := i3 (S.2 c 14 - 1)) h1 h2 h3 h4 hr (fun m1 hc => ?_) (fun m2 hm2 => ?_) (fun m4 hm4 => ?_) ?_
      · rw [e1, e2]
        exact pf3 hc h1.2.2.1 b1 (by omega)
      · show fX6_drop a1 a2 m2 = _
        unfold fX6_drop
        rw [m_has hm2 h1.2.2.1, w1, gClI, gLtI, iB0, if_pos rfl, e1, n14, m_ofS hm2 (by omega) (by omega) (by omega), gClI, hm, w2, gClI, iB0, if_pos rfl]
        dsimp only
        rw [r_ok, gClI, if_pos rfl]
      · rw [e1, e2]
        exact m_drop hm4 (by omega) h14 (by omega)
      · exact (h1.2.2.le (by omega)).cu (drR_s (h1.2.2.1.cust b1) (by omega))
theorem g16 : gP16 Inv := by
  intro T m a1 a2 a3 hT hi
  have hi0 := hi
  obtain ⟨S, D, n, f, nx, q, F, w, G, h1, h2, h3, h4⟩ := hi
  obtain ⟨v, hv1, hv2⟩ : ∃ v : Nat, (if a3 = 0 then (0 : Int32) else 1) = i3 v ∧ v ≤ 1 := by
    by_cases c : a3 = 0
    · rw [if_pos c]; exact ⟨0, rfl, by omega⟩
    · rw [if_neg c]; exact ⟨1, rfl, by omega⟩
  rw [hv1]
  have hv3 : (if i3 v = 0 then (0 : Int32) else 1) = i3 v := by
    rcases (show v = 0 ∨ v = 1 by omega) with r | r <;> subst r <;> rfl
  have hv4 : (if i3 v = 1 then (1 : Int32) else 0) = i3 v := by
    rcases (show v = 0 ∨ v = 1 by omega) with r | r <;> subst r <;> rfl
  have hr := rf4 (b := 128) (p2 := a1) (p3 := a2) (p4 := i3 v) (m := m)
  have hF : fX5_close a1 a2 (i3 v) m = gClX (fX5_act 4 a1 a2 (i3 v) m) fun m1 x2 => some (m1, 0, x2) := by
    unfold fX5_close
    rw [hv3, gLtI]
  rw [hF]
  cases w1 : wi a1 0 3 with
  | false =>
    rw [w1] at hr
    refine actNo (e := 1) (kk := 1) hi0 hr (by omega) rfl ?_
    show fX6_close a1 a2 (i3 v) m = _
    unfold fX6_close
    rw [m_st, w1, gClI, gLtI]
    rfl
  | true =>
    cases w2 : wi a2 0 6 with
    | false =>
      rw [w1, w2] at hr
      refine actNo (e := 1) (kk := 1) hi0 hr (by omega) rfl ?_
      show fX6_close a1 a2 (i3 v) m = _
      unfold fX6_close
      rw [m_st, w1, gClI, gLtI, iB0, if_pos rfl, m_wk, w2, gClI]
      rfl
    | true =>
      rw [w1, w2] at hr
      obtain ⟨st, e1, -, b1, -⟩ := wi_n (a := 0) (b := 3) w1
      obtain ⟨d, e2, -, b2, -⟩ := wi_n (a := 0) (b := 6) w2
      refine actOk (S' := sH S (20 + 7 * st + d) v) (D' := D) (AM := fX6_closeOn 5824 258 a1 a2 (i3 v)) (r := i3 (sm (fun k => (sH S (20 + 7 * st + d) v).1 (20 + 7 * st + k)) 7)) h1 h2 h3 h4 hr (fun m1 hc => ?_) (fun m2 hm2 => ?_) (fun m4 hm4 => ?_) ?_
      · rw [e1, e2]
        exact pf4 hc h1.2.2 (by omega) (by omega) hv4 hv2
      · show fX6_close a1 a2 (i3 v) m2 = _
        unfold fX6_close
        rw [m_st, w1, gClI, gLtI, iB0, if_pos rfl, m_wk, w2, gClI, iB0, if_pos rfl]
        dsimp only
        rw [r_ok, gClI, if_pos rfl]
      · rw [e1, e2]
        exact m_close (B := 0) hm4 (by omega) (by omega) hv3
      · exact (h1.2.2.le (by omega)).sh (by omega) (by omega) hv2
theorem g17 : gP17 Inv := by
  intro T m a1 a2 hT hi
  have hi0 := hi
  obtain ⟨S, D, n, f, nx, q, F, w, G, h1, h2, h3, h4⟩ := hi
  have hr := rf5 (b := 128) (p2 := a1) (p3 := a2) (p4 := 0) (m := m)
  show ∃ m3, gOk [1] (gClX (fX5_act 5 a1 a2 0 m) fun m1 x2 => some (m1, 0, x2)) (fun q => fX6_swap a1 a2 q) m3 ∧ _
  cases w1 : wi a1 0 3 with
  | false =>
    rw [w1] at hr
    refine actNo (e := 1) (kk := 1) hi0 hr (by omega) rfl ?_
    show fX6_swap a1 a2 m = _
    unfold fX6_swap
    rw [m_st, w1, gClI, gLtI]
    rfl
  | true =>
    cases w2 : wi a2 0 3 with
    | false =>
      rw [w1, w2] at hr
      refine actNo (e := 1) (kk := 1) hi0 hr (by omega) rfl ?_
      show fX6_swap a1 a2 m = _
      unfold fX6_swap
      rw [m_st, w1, gClI, gLtI, iB0, if_pos rfl, m_st, w2, gClI]
      rfl
    | true =>
      rw [w1, w2] at hr
      obtain ⟨s, e1, -, b1, -⟩ := wi_n (a := 0) (b := 3) w1
      obtain ⟨t, e2, -, b2, -⟩ := wi_n (a := 0) (b := 3) w2
      refine actOk (S' := swS S s t) (D' := D) (AM := fX6_swapOn 5824 258 a1 a2) (r := i3 (plc S t)) h1 h2 h3 h4 hr (fun m1 hc => ?_) (fun m2 hm2 => ?_) (fun m4 hm4 => ?_) ?_
      · rw [e1, e2]
        exact pf5 hc h1.2.2.1 (by omega) (by omega)
      · show fX6_swap a1 a2 m2 = _
        unfold fX6_swap
        rw [m_st, w1, gClI, gLtI, iB0, if_pos rfl, m_st, w2, gClI, iB0, if_pos rfl]
        dsimp only
        rw [r_ok, gClI, if_pos rfl]
      · rw [e1, e2]
        exact m_swap hm4 h1.2.2.1 (by omega) (by omega)
      · exact (h1.2.2.le (by omega)).sw (by omega) (by omega)
theorem m_se (p q : Int32) (m : gM) : fX6_isSetting p q m = some (m, bI (seB p q)) := by
  unfold fX6_isSetting seB
  have K : ∀ lo hi : Int64, (gCl (fX6_in q.toInt64 lo hi m) fun m2 x3 => gRz .boolean x3 (some (m2, x3))) = some (m, bI (wi q lo.toInt hi.toInt)) := by
    intro lo hi
    rw [m_inI, gClI, gRzB]
  by_cases c0 : p = 0
  · rw [if_pos c0, if_pos c0, K, c0]; rfl
  · rw [if_neg c0, if_neg c0]
    by_cases c1 : p = 1
    · rw [if_pos c1, if_pos c1, K, c1]; rfl
    · rw [if_neg c1, if_neg c1]
      by_cases c2 : p = 2
      · rw [if_pos c2, if_pos c2, K, c2]; rfl
      · rw [if_neg c2, if_neg c2]
        by_cases c3 : p = 3
        · rw [if_pos c3, if_pos c3, K, c3]; rfl
        · rw [if_neg c3, if_neg c3]
          by_cases c4 : p = 4
          · rw [if_pos c4, K, c4]; rfl
          · rw [if_neg c4]
            have e : wi p 0 4 = false := by
              cases hw : wi p 0 4 with
              | false => rfl
              | true =>
                obtain ⟨i, e, -, b, -⟩ := wi_n (a := 0) (b := 4) hw
                exfalso
                rcases (show i = 0 ∨ i = 1 ∨ i = 2 ∨ i = 3 ∨ i = 4 by omega) with r | r | r | r | r <;> subst r
                · exact c0 e
                · exact c1 e
                · exact c2 e
                · exact c3 e
                · exact c4 e
            rw [e]
            rfl
theorem g18 : gP18 Inv := by
  intro T m a1 a2 hT hi
  have hi0 := hi
  obtain ⟨S, D, n, f, nx, q, F, w, G, h1, h2, h3, h4⟩ := hi
  have hr := rf6 (b := 128) (p2 := a1) (p3 := a2) (p4 := 0) (m := m)
  show ∃ m3, gOk [2] (gClX (fX5_act 6 a1 a2 0 m) fun m1 x2 => some (m1, 0, x2)) (fun q => fX6_set a1 a2 q) m3 ∧ _
  cases w1 : seB a1 a2 with
  | false =>
    rw [w1] at hr
    refine actNo (e := 2) (kk := 1) hi0 hr (by omega) rfl ?_
    show fX6_set a1 a2 m = _
    unfold fX6_set
    rw [m_se, w1, gClI, m_reqF, if_neg (by decide)]
  | true =>
    rw [w1] at hr
    obtain ⟨i, x, e1, e2, b1⟩ := seX w1
    refine actOk (S' := sH S (11 + i) x) (D' := D) (AM := fX6_put 5824 258 (11 + a1) a2) (r := i3 (S.1 (11 + i))) h1 h2 h3 h4 hr (fun m1 hc => ?_) (fun m2 hm2 => ?_) (fun m4 hm4 => ?_) ?_
    · rw [e1, e2]
      exact pf6 hc b1
    · show fX6_set a1 a2 m2 = _
      unfold fX6_set
      rw [m_se, w1, gClI, m_reqT, if_pos rfl]
    · rw [e1, e2]
      exact m_put hm4 (stOk_i b1)
    · exact (h1.2.2.le (by omega)).st b1
theorem g19 : gP19 Inv := by
  intro T m a1 hT hi
  have hi0 := hi
  obtain ⟨S, D, n, f, nx, q, F, w, G, h1, h2, h3, h4⟩ := hi
  have hr := rf7 (b := 128) (p2 := a1) (p3 := 0) (p4 := 0) (m := m)
  have hm : ∀ m, fX6_in a1.toInt64 1 60 m = some (m, bI (wi a1 1 60)) := fun m => by rw [m_inI]; rfl
  show ∃ m3, gOk [2] (gClX (fX5_act 7 a1 0 0 m) fun m1 x2 => some (m1, 0, x2)) (fun q => fX6_days a1 q) m3 ∧ _
  cases w1 : wi a1 1 60 with
  | false =>
    rw [w1] at hr
    refine actNo (e := 2) (kk := 1) hi0 hr (by omega) rfl ?_
    show fX6_days a1 m = _
    unfold fX6_days
    rw [hm, w1, gClI, m_reqF, if_neg (by decide)]
  | true =>
    rw [w1] at hr
    obtain ⟨p, e1, b1, b2, -⟩ := wi_n (a := 1) (b := 60) w1
    refine actOk (S' := (daysZ p (S, D)).1) (D' := (daysZ p (S, D)).2) (AM := fX6_daysOn 5824 258 a1) (r := i3 ((daysZ p (S, D)).2.1 3 + (daysZ p (S, D)).2.1 4) - i3 (D.1 3 + D.1 4)) h1 h2 h3 h4 hr (fun m1 hc => ?_) (fun m2 hm2 => ?_) (fun m4 hm4 => ?_) ?_
    · rw [e1]
      exact pf7 hc h1.2.2 (by omega) b1 b2
    · show fX6_days a1 m2 = _
      unfold fX6_days
      rw [hm, w1, gClI, m_reqT, if_pos rfl]
    · rw [e1]
      exact m_days hm4 h1.2.2 (by omega) (by omega)
    · exact (h1.2.2.days p).1.le (by omega)
