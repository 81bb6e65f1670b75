/-! the law's wrappers -/
theorem clL_13 : Cond.classLink RL 13 "java/lang/IllegalArgumentException" ∈ gG := gG_mem (List.mem_of_getElem? (i := 355) (by decide +kernel)) rfl
theorem clL_15 : Cond.classLink RL 15 "java/lang/IllegalStateException" ∈ gG := gG_mem (List.mem_of_getElem? (i := 356) (by decide +kernel)) rfl
theorem clL_28 : Cond.classLink RL 28 "java/lang/IndexOutOfBoundsException" ∈ gG := gG_mem (List.mem_of_getElem? (i := 648) (by decide +kernel)) rfl
theorem caL_1 : Cond.castable "java/lang/IndexOutOfBoundsException" "java/lang/IndexOutOfBoundsException" ∈ gN := gN_mem (List.mem_of_getElem? (i := 659) (by decide +kernel)) rfl
theorem caL_2 : Cond.castable "java/lang/IllegalArgumentException" "java/lang/IllegalArgumentException" ∈ gN := gN_mem (List.mem_of_getElem? (i := 369) (by decide +kernel)) rfl
theorem caL_3 : Cond.castable "java/lang/IllegalStateException" "java/lang/IllegalStateException" ∈ gN := gN_mem (List.mem_of_getElem? (i := 439) (by decide +kernel)) rfl
def gUo (u : gU) (o : gM × Nat × Int32) : gU := if o.2.1 = 0 then gUl u o.2.2.toInt64 else u
def gKi : List Nat → Nat → Int32 → Option Int32
  | [], _, _ => none
  | a :: t, e, i => if e = a then some i else gKi t e (i + 1)
/-- what a wrapper answers: 0, or the place of the exception among those that it catches -/
def gKd (es : List Nat) (e : Nat) : Option Int32 := if e = 0 then some 0 else gKi es e 1
theorem gKd_ret {es : List Nat} {e : Nat} {k : Int32} (h : gKd es e = some k) (h0 : e = 0) : k = 0 := by
  unfold gKd at h
  rw [if_pos h0] at h
  exact (Option.some.inj h).symm
theorem gKd1 {a e : Nat} {k : Int32} (h : gKd [a] e = some k) (h0 : ¬ e = 0) : e = a ∧ k = 1 := by
  simp only [gKd, if_neg h0, gKi] at h
  split at h
  · rename_i q
    exact ⟨q, (Option.some.inj h).symm⟩
  · cases h
theorem gKd2 {a b e : Nat} {k : Int32} (h : gKd [a, b] e = some k) (h0 : ¬ e = 0) : (e = a ∧ k = 1) ∨ (e = b ∧ k = 2) := by
  simp only [gKd, if_neg h0, gKi] at h
  split at h
  · rename_i q
    exact Or.inl ⟨q, (Option.some.inj h).symm⟩
  · split at h
    · rename_i q
      exact Or.inr ⟨q, (Option.some.inj h).symm⟩
    · cases h
theorem gKd3 {a b c e : Nat} {k : Int32} (h : gKd [a, b, c] e = some k) (h0 : ¬ e = 0) : (e = a ∧ k = 1) ∨ (e = b ∧ k = 2) ∨ (e = c ∧ k = 3) := by
  simp only [gKd, if_neg h0, gKi] at h
  split at h
  · rename_i q
    exact Or.inl ⟨q, (Option.some.inj h).symm⟩
  · split at h
    · rename_i q
      exact Or.inr (Or.inl ⟨q, (Option.some.inj h).symm⟩)
    · split at h
      · rename_i q
        exact Or.inr (Or.inr ⟨q, (Option.some.inj h).symm⟩)
      · cases h
theorem gEndW_s {Y : gY} {hh : List (Nat × Nat × Nat × Nat)} {u1 u : gU} {σ1 : gM} {r : Option Value} {a b : Nat} (h : gEndW Y hh u1 σ1 r) (ha : a ≤ 1) (hb : b ≤ 6) : gEndW (gYs Y u a b) hh u1 σ1 r := by
  obtain ⟨G, u0, nL, p, l, e, R, s, m, args, below, meth, c, cells, slots, Q⟩ := Y
  exact ⟨h.1, h.2.1, h.2.2.1, h.2.2.2.1, ha, hb, h.2.2.2.2.2.2⟩
theorem gYs_u {Y : gY} {u : gU} {a b : Nat} : (gYs Y u a b).2.1 = u := by
  obtain ⟨G, u0, nL, p, l, e, R, s, m, args, below, meth, c, cells, slots, Q⟩ := Y
  rfl
theorem gYs_G {Y : gY} {u : gU} {a b : Nat} : (gYs Y u a b).1 = Y.1 := by
  obtain ⟨G, u0, nL, p, l, e, R, s, m, args, below, meth, c, cells, slots, Q⟩ := Y
  rfl
theorem gYs_nL {Y : gY} {u : gU} {a b : Nat} : gNL (gYs Y u a b) = gNL Y := by
  obtain ⟨G, u0, nL, p, l, e, R, s, m, args, below, meth, c, cells, slots, Q⟩ := Y
  rfl
theorem gYs_Rm {Y : gY} {u : gU} {a b : Nat} : gRm (gYs Y u a b) = gRm Y := by
  obtain ⟨G, u0, nL, p, l, e, R, s, m, args, below, meth, c, cells, slots, Q⟩ := Y
  rfl
theorem gYs_Ln {Y : gY} {u : gU} {a b : Nat} : gLn (gYs Y u a b) = gLn Y := by
  obtain ⟨G, u0, nL, p, l, e, R, s, m, args, below, meth, c, cells, slots, Q⟩ := Y
  rfl
theorem gYs_Cs {Y : gY} {u : gU} {a b : Nat} : gCs (gYs Y u a b) = (a, b) := by
  obtain ⟨G, u0, nL, p, l, e, R, s, m, args, below, meth, c, cells, slots, Q⟩ := Y
  rfl
theorem gYs_X {Y : gY} {u : gU} {a b L : Nat} {xs : Nat → Int32} (h : gScr Y L xs) : gScr (gYs Y u a b) L xs := by
  obtain ⟨G, u0, nL, p, l, e, R, s, m, args, below, meth, c, cells, slots, Q⟩ := Y
  exact h
theorem gYs_s {Y : gY} {u u1 : gU} {a b a1 b1 : Nat} : gYs (gYs Y u a b) u1 a1 b1 = gYs Y u1 a1 b1 := by
  obtain ⟨G, u0, nL, p, l, e, R, s, m, args, below, meth, c, cells, slots, Q⟩ := Y
  rfl
theorem gUo_full {u : gU} {o : gM × Nat × Int32} (h : gFull u) : gFull (gUo u o) := by
  unfold gUo
  split
  · exact h
  · exact h
abbrev rmL_append : Room := { frames := 8, cells := 1, slots := 6, locals := 123 }
theorem cd_L_append : Cond.codeWith yL_append cL_append 4 (some .int) [(0, 9, 12, 13), (0, 9, 15, 15)] ∈ gG := gG_mem (List.mem_of_getElem? (i := 354) (by decide +kernel)) rfl
theorem nm_L_append : gNm yL_append 3 := by unfold gNm; decide +kernel
theorem wL_111 : Cond.methodLink RL 111 yL_append ∈ gG ∧ Cond.static yL_append ∈ gG ∧ Cond.initialized (yL_append).cls ∈ gG := ⟨gG_mem (List.mem_of_getElem? (i := 352) (by decide +kernel)) rfl, gG_mem (List.mem_of_getElem? (i := 353) (by decide +kernel)) rfl, gG_mem (List.mem_of_getElem? (i := 72) (by decide +kernel)) rfl⟩
set_option maxHeartbeats 4000000 in
set_option maxRecDepth 100000 in
theorem tL_append (l : Launch) (hlt : l.stackTraces = false) (G : gX) (u : gU) (hF : gFull u) (p1 : Int32) (m : gM) (o : gM × Nat × Int32) (h : fX5_append p1 m = some o) (k : Int32) (hk : gKd [2, 3] o.2.1 = some k) : gMetW l G u (gUo u o) yL_append (.codeWith yL_append cL_append 4 (some .int) [(0, 9, 12, 13), (0, 9, 15, 15)]) rmL_append [.ref 0, .int p1, .ref 10470] m o.1 (some (.int k)) := by
  refine gMetW_of (own := RL) (k := 1) (by decide) rfl ⟨rfl, rfl⟩ (Nat.le_of_ble_eq_true rfl) [some (.ref 0), some (.int p1), some (.ref 10470), none] rfl (fun Y hG hu hnL hLn hRm hCs he => ?_)
  subst hG hu hLn
  by_cases hz : o.2.1 = 0
  · have hk0 := gKd_ret hk hz
    subst hk0
    refine r_aload_n (pc := 0) dL_append_0 rfl rfl ?_
    refine r_iconst (pc := 1) (v := 0) dL_append_1 (by decide) ?_
    refine r_aload_n (pc := 2) dL_append_2 rfl rfl ?_
    refine r_iload_n (pc := 3) dL_append_3 rfl rfl ?_
    refine r_callV (kd := 4) (pc := 4) [.int _] (tX5_append _ _ _ hF _ _ _ h hz) ⟨rfl, rfl⟩ cd_X5_append wL_7 nm_X5_append rfl (by rw [hRm]; decide) rfl (Nat.le_of_ble_eq_true rfl) rfl (by decide) (gO4 hF) dL_append_4 ?_
    refine r_i2l (pc := 7) dL_append_7 ?_
    refine r_last (pc := 8) dL_append_8 (gOout hF) ?_
    refine r_goto (pc := 9) (tgt := 18) dL_append_9 (by decide) ?_
    refine r_iconst (pc := 18) (v := 0) dL_append_18 (by decide) ?_
    exact r_iretW dL_append_19 (gEndW_s he (by rw [hCs]; decide) (by rw [hCs]; decide)) (by rw [gYs_u]; unfold gUo; rw [if_pos hz])
  · rcases gKd2 hk hz with ⟨e0, rfl⟩ | ⟨e1, rfl⟩
    · refine r_aload_n (pc := 0) dL_append_0 rfl rfl ?_
      refine r_iconst (pc := 1) (v := 0) dL_append_1 (by decide) ?_
      refine r_aload_n (pc := 2) dL_append_2 rfl rfl ?_
      refine r_iload_n (pc := 3) dL_append_3 rfl rfl ?_
      refine r_callVC (kd := 4) (pc := 4) (hp := 12) (hp1 := 13) [.int _] (tX5_appendT _ hlt _ _ hF _ _ _ h hz) ⟨rfl, rfl⟩ cd_X5_append wL_7 nm_X5_append rfl (by rw [hRm]; decide) rfl (Nat.le_of_ble_eq_true rfl) rfl (by decide) (gO4 hF) dL_append_4 he hCs 1 (by decide) (by rw [e0]; rfl) [] (0, 9, 12, 13) [(0, 9, 15, 15)] rfl (by decide) rfl (by decide) (fun _ hz => nomatch hz) (by rw [e0]; exact clL_13) (by rw [e0]; exact caL_2) (Or.inl ⟨3, 3, dL_append_12, rfl, by rw [hnL]; decide, rfl⟩) ?_
      refine r_iconst (pc := 13) (v := 1) dL_append_13 (by decide) ?_
      exact r_iretW dL_append_14 (gEndW_s he (Nat.le_refl _) (Nat.le_refl _)) (by rw [gYs_u]; unfold gUo; rw [if_neg hz])
    · refine r_aload_n (pc := 0) dL_append_0 rfl rfl ?_
      refine r_iconst (pc := 1) (v := 0) dL_append_1 (by decide) ?_
      refine r_aload_n (pc := 2) dL_append_2 rfl rfl ?_
      refine r_iload_n (pc := 3) dL_append_3 rfl rfl ?_
      refine r_callVC (kd := 4) (pc := 4) (hp := 15) (hp1 := 16) [.int _] (tX5_appendT _ hlt _ _ hF _ _ _ h hz) ⟨rfl, rfl⟩ cd_X5_append wL_7 nm_X5_append rfl (by rw [hRm]; decide) rfl (Nat.le_of_ble_eq_true rfl) rfl (by decide) (gO4 hF) dL_append_4 he hCs 2 (by decide) (by rw [e1]; rfl) [(0, 9, 12, 13)] (0, 9, 15, 15) [] rfl (by decide) rfl (by decide) (fun z hz => by rcases List.mem_singleton.mp hz with rfl; exact ⟨by decide, 1, by decide, by decide, clL_13⟩) (by rw [e1]; exact clL_15) (by rw [e1]; exact caL_3) (Or.inl ⟨3, 3, dL_append_15, rfl, by rw [hnL]; decide, rfl⟩) ?_
      refine r_iconst (pc := 16) (v := 2) dL_append_16 (by decide) ?_
      exact r_iretW dL_append_17 (gEndW_s he (Nat.le_refl _) (Nat.le_refl _)) (by rw [gYs_u]; unfold gUo; rw [if_neg hz])
abbrev rmL_load : Room := { frames := 8, cells := 1, slots := 6, locals := 164 }
theorem cd_L_load : Cond.codeWith yL_load cL_load 3 (some .int) [(0, 8, 11, 15)] ∈ gG := gG_mem (List.mem_of_getElem? (i := 459) (by decide +kernel)) rfl
theorem nm_L_load : gNm yL_load 2 := by unfold gNm; decide +kernel
theorem wL_128 : Cond.methodLink RL 128 yL_load ∈ gG ∧ Cond.static yL_load ∈ gG ∧ Cond.initialized (yL_load).cls ∈ gG := ⟨gG_mem (List.mem_of_getElem? (i := 457) (by decide +kernel)) rfl, gG_mem (List.mem_of_getElem? (i := 458) (by decide +kernel)) rfl, gG_mem (List.mem_of_getElem? (i := 72) (by decide +kernel)) rfl⟩
set_option maxHeartbeats 4000000 in
set_option maxRecDepth 100000 in
theorem tL_load (l : Launch) (hlt : l.stackTraces = false) (G : gX) (u : gU) (hF : gFull u)  (m : gM) (o : gM × Nat × Int32) (h : fX5_load  m = some o) (k : Int32) (hk : gKd [3] o.2.1 = some k) : gMetW l G u (gUo u o) yL_load (.codeWith yL_load cL_load 3 (some .int) [(0, 8, 11, 15)]) rmL_load [.ref 0, .ref 10470] m o.1 (some (.int k)) := by
  refine gMetW_of (own := RL) (k := 1) (by decide) rfl ⟨rfl, rfl⟩ (Nat.le_of_ble_eq_true rfl) [some (.ref 0), some (.ref 10470), none] rfl (fun Y hG hu hnL hLn hRm hCs he => ?_)
  subst hG hu hLn
  by_cases hz : o.2.1 = 0
  · have hk0 := gKd_ret hk hz
    subst hk0
    refine r_aload_n (pc := 0) dL_load_0 rfl rfl ?_
    refine r_iconst (pc := 1) (v := 0) dL_load_1 (by decide) ?_
    refine r_aload_n (pc := 2) dL_load_2 rfl rfl ?_
    refine r_callV (kd := 4) (pc := 3) [] (tX5_load _ _ _ hF  _ _ h hz) ⟨rfl, rfl⟩ cd_X5_load wL_17 nm_X5_load rfl (by rw [hRm]; decide) rfl (Nat.le_of_ble_eq_true rfl) rfl (by decide) (gO4 hF) dL_load_3 ?_
    refine r_i2l (pc := 6) dL_load_6 ?_
    refine r_last (pc := 7) dL_load_7 (gOout hF) ?_
    refine r_goto (pc := 8) (tgt := 14) dL_load_8 (by decide) ?_
    refine r_iconst (pc := 14) (v := 0) dL_load_14 (by decide) ?_
    exact r_iretW dL_load_15 (gEndW_s he (by rw [hCs]; decide) (by rw [hCs]; decide)) (by rw [gYs_u]; unfold gUo; rw [if_pos hz])
  · obtain ⟨e0, rfl⟩ := gKd1 hk hz
    refine r_aload_n (pc := 0) dL_load_0 rfl rfl ?_
    refine r_iconst (pc := 1) (v := 0) dL_load_1 (by decide) ?_
    refine r_aload_n (pc := 2) dL_load_2 rfl rfl ?_
    refine r_callVC (kd := 4) (pc := 3) (hp := 11) (hp1 := 12) [] (tX5_loadT _ hlt _ _ hF  _ _ h hz) ⟨rfl, rfl⟩ cd_X5_load wL_17 nm_X5_load rfl (by rw [hRm]; decide) rfl (Nat.le_of_ble_eq_true rfl) rfl (by decide) (gO4 hF) dL_load_3 he hCs 2 (by decide) (by rw [e0]; rfl) [] (0, 8, 11, 15) [] rfl (by decide) rfl (by decide) (fun _ hz => nomatch hz) (by rw [e0]; exact clL_15) (by rw [e0]; exact caL_3) (Or.inl ⟨2, 2, dL_load_11, rfl, by rw [hnL]; decide, rfl⟩) ?_
    refine r_iconst (pc := 12) (v := 1) dL_load_12 (by decide) ?_
    exact r_iretW dL_load_13 (gEndW_s he (Nat.le_refl _) (Nat.le_refl _)) (by rw [gYs_u]; unfold gUo; rw [if_neg hz])
abbrev rmL_about : Room := { frames := 8, cells := 1, slots := 6, locals := 123 }
theorem cd_L_about : Cond.codeWith yL_about cL_about 4 (some .int) [(0, 9, 12, 13)] ∈ gG := gG_mem (List.mem_of_getElem? (i := 624) (by decide +kernel)) rfl
theorem nm_L_about : gNm yL_about 3 := by unfold gNm; decide +kernel
theorem wL_132 : Cond.methodLink RL 132 yL_about ∈ gG ∧ Cond.static yL_about ∈ gG ∧ Cond.initialized (yL_about).cls ∈ gG := ⟨gG_mem (List.mem_of_getElem? (i := 622) (by decide +kernel)) rfl, gG_mem (List.mem_of_getElem? (i := 623) (by decide +kernel)) rfl, gG_mem (List.mem_of_getElem? (i := 72) (by decide +kernel)) rfl⟩
set_option maxHeartbeats 4000000 in
set_option maxRecDepth 100000 in
theorem tL_about (l : Launch) (hlt : l.stackTraces = false) (G : gX) (u : gU) (hF : gFull u) (p1 : Int32) (m : gM) (o : gM × Nat × Int32) (h : fX5_about p1 m = some o) (k : Int32) (hk : gKd [2] o.2.1 = some k) : gMetW l G u (gUo u o) yL_about (.codeWith yL_about cL_about 4 (some .int) [(0, 9, 12, 13)]) rmL_about [.ref 0, .int p1, .ref 10470] m o.1 (some (.int k)) := by
  refine gMetW_of (own := RL) (k := 1) (by decide) rfl ⟨rfl, rfl⟩ (Nat.le_of_ble_eq_true rfl) [some (.ref 0), some (.int p1), some (.ref 10470), none] rfl (fun Y hG hu hnL hLn hRm hCs he => ?_)
  subst hG hu hLn
  by_cases hz : o.2.1 = 0
  · have hk0 := gKd_ret hk hz
    subst hk0
    refine r_aload_n (pc := 0) dL_about_0 rfl rfl ?_
    refine r_iconst (pc := 1) (v := 0) dL_about_1 (by decide) ?_
    refine r_aload_n (pc := 2) dL_about_2 rfl rfl ?_
    refine r_iload_n (pc := 3) dL_about_3 rfl rfl ?_
    refine r_callV (kd := 4) (pc := 4) [.int _] (tX5_about _ _ _ hF _ _ _ h hz) ⟨rfl, rfl⟩ cd_X5_about wL_21 nm_X5_about rfl (by rw [hRm]; decide) rfl (Nat.le_of_ble_eq_true rfl) rfl (by decide) (gO4 hF) dL_about_4 ?_
    refine r_i2l (pc := 7) dL_about_7 ?_
    refine r_last (pc := 8) dL_about_8 (gOout hF) ?_
    refine r_goto (pc := 9) (tgt := 15) dL_about_9 (by decide) ?_
    refine r_iconst (pc := 15) (v := 0) dL_about_15 (by decide) ?_
    exact r_iretW dL_about_16 (gEndW_s he (by rw [hCs]; decide) (by rw [hCs]; decide)) (by rw [gYs_u]; unfold gUo; rw [if_pos hz])
  · obtain ⟨e0, rfl⟩ := gKd1 hk hz
    refine r_aload_n (pc := 0) dL_about_0 rfl rfl ?_
    refine r_iconst (pc := 1) (v := 0) dL_about_1 (by decide) ?_
    refine r_aload_n (pc := 2) dL_about_2 rfl rfl ?_
    refine r_iload_n (pc := 3) dL_about_3 rfl rfl ?_
    refine r_callVC (kd := 4) (pc := 4) (hp := 12) (hp1 := 13) [.int _] (tX5_aboutT _ hlt _ _ hF _ _ _ h hz) ⟨rfl, rfl⟩ cd_X5_about wL_21 nm_X5_about rfl (by rw [hRm]; decide) rfl (Nat.le_of_ble_eq_true rfl) rfl (by decide) (gO4 hF) dL_about_4 he hCs 1 (by decide) (by rw [e0]; rfl) [] (0, 9, 12, 13) [] rfl (by decide) rfl (by decide) (fun _ hz => nomatch hz) (by rw [e0]; exact clL_13) (by rw [e0]; exact caL_2) (Or.inl ⟨3, 3, dL_about_12, rfl, by rw [hnL]; decide, rfl⟩) ?_
    refine r_iconst (pc := 13) (v := 1) dL_about_13 (by decide) ?_
    exact r_iretW dL_about_14 (gEndW_s he (Nat.le_refl _) (Nat.le_refl _)) (by rw [gYs_u]; unfold gUo; rw [if_neg hz])
abbrev rmL_customerOf : Room := { frames := 8, cells := 1, slots := 6, locals := 124 }
theorem cd_L_customerOf : Cond.codeWith yL_customerOf cL_customerOf 5 (some .int) [(0, 10, 13, 28), (0, 10, 17, 13)] ∈ gG := gG_mem (List.mem_of_getElem? (i := 647) (by decide +kernel)) rfl
theorem nm_L_customerOf : gNm yL_customerOf 4 := by unfold gNm; decide +kernel
theorem wL_135 : Cond.methodLink RL 135 yL_customerOf ∈ gG ∧ Cond.static yL_customerOf ∈ gG ∧ Cond.initialized (yL_customerOf).cls ∈ gG := ⟨gG_mem (List.mem_of_getElem? (i := 645) (by decide +kernel)) rfl, gG_mem (List.mem_of_getElem? (i := 646) (by decide +kernel)) rfl, gG_mem (List.mem_of_getElem? (i := 72) (by decide +kernel)) rfl⟩
set_option maxHeartbeats 4000000 in
set_option maxRecDepth 100000 in
theorem tL_customerOf (l : Launch) (hlt : l.stackTraces = false) (G : gX) (u : gU) (hF : gFull u) (p1 : Int32) (p2 : Int32) (m : gM) (o : gM × Nat × Int32) (h : fX5_customerOf p1 p2 m = some o) (k : Int32) (hk : gKd [1, 2] o.2.1 = some k) : gMetW l G u (gUo u o) yL_customerOf (.codeWith yL_customerOf cL_customerOf 5 (some .int) [(0, 10, 13, 28), (0, 10, 17, 13)]) rmL_customerOf [.ref 0, .int p1, .int p2, .ref 10470] m o.1 (some (.int k)) := by
  refine gMetW_of (own := RL) (k := 1) (by decide) rfl ⟨rfl, rfl⟩ (Nat.le_of_ble_eq_true rfl) [some (.ref 0), some (.int p1), some (.int p2), some (.ref 10470), none] rfl (fun Y hG hu hnL hLn hRm hCs he => ?_)
  subst hG hu hLn
  by_cases hz : o.2.1 = 0
  · have hk0 := gKd_ret hk hz
    subst hk0
    refine r_aload_n (pc := 0) dL_customerOf_0 rfl rfl ?_
    refine r_iconst (pc := 1) (v := 0) dL_customerOf_1 (by decide) ?_
    refine r_aload_n (pc := 2) dL_customerOf_2 rfl rfl ?_
    refine r_iload_n (pc := 3) dL_customerOf_3 rfl rfl ?_
    refine r_iload_n (pc := 4) dL_customerOf_4 rfl rfl ?_
    refine r_callV (kd := 4) (pc := 5) [.int _, .int _] (tX5_customerOf _ _ _ hF _ _ _ _ h hz) ⟨rfl, rfl⟩ cd_X5_customerOf wL_24 nm_X5_customerOf rfl (by rw [hRm]; decide) rfl (Nat.le_of_ble_eq_true rfl) rfl (by decide) (gO4 hF) dL_customerOf_5 ?_
    refine r_i2l (pc := 8) dL_customerOf_8 ?_
    refine r_last (pc := 9) dL_customerOf_9 (gOout hF) ?_
    refine r_goto (pc := 10) (tgt := 21) dL_customerOf_10 (by decide) ?_
    refine r_iconst (pc := 21) (v := 0) dL_customerOf_21 (by decide) ?_
    exact r_iretW dL_customerOf_22 (gEndW_s he (by rw [hCs]; decide) (by rw [hCs]; decide)) (by rw [gYs_u]; unfold gUo; rw [if_pos hz])
  · rcases gKd2 hk hz with ⟨e0, rfl⟩ | ⟨e1, rfl⟩
    · refine r_aload_n (pc := 0) dL_customerOf_0 rfl rfl ?_
      refine r_iconst (pc := 1) (v := 0) dL_customerOf_1 (by decide) ?_
      refine r_aload_n (pc := 2) dL_customerOf_2 rfl rfl ?_
      refine r_iload_n (pc := 3) dL_customerOf_3 rfl rfl ?_
      refine r_iload_n (pc := 4) dL_customerOf_4 rfl rfl ?_
      refine r_callVC (kd := 4) (pc := 5) (hp := 13) (hp1 := 15) [.int _, .int _] (tX5_customerOfT _ hlt _ _ hF _ _ _ _ h hz) ⟨rfl, rfl⟩ cd_X5_customerOf wL_24 nm_X5_customerOf rfl (by rw [hRm]; decide) rfl (Nat.le_of_ble_eq_true rfl) rfl (by decide) (gO4 hF) dL_customerOf_5 he hCs 0 (by decide) (by rw [e0]; rfl) [] (0, 10, 13, 28) [(0, 10, 17, 13)] rfl (by decide) rfl (by decide) (fun _ hz => nomatch hz) (by rw [e0]; exact clL_28) (by rw [e0]; exact caL_1) (Or.inr ⟨4, dL_customerOf_13, by rw [hnL]; decide, rfl⟩) ?_
      refine r_iconst (pc := 15) (v := 1) dL_customerOf_15 (by decide) ?_
      exact r_iretW dL_customerOf_16 (gEndW_s he (Nat.le_refl _) (Nat.le_refl _)) (by rw [gYs_u]; unfold gUo; rw [if_neg hz])
    · refine r_aload_n (pc := 0) dL_customerOf_0 rfl rfl ?_
      refine r_iconst (pc := 1) (v := 0) dL_customerOf_1 (by decide) ?_
      refine r_aload_n (pc := 2) dL_customerOf_2 rfl rfl ?_
      refine r_iload_n (pc := 3) dL_customerOf_3 rfl rfl ?_
      refine r_iload_n (pc := 4) dL_customerOf_4 rfl rfl ?_
      refine r_callVC (kd := 4) (pc := 5) (hp := 17) (hp1 := 19) [.int _, .int _] (tX5_customerOfT _ hlt _ _ hF _ _ _ _ h hz) ⟨rfl, rfl⟩ cd_X5_customerOf wL_24 nm_X5_customerOf rfl (by rw [hRm]; decide) rfl (Nat.le_of_ble_eq_true rfl) rfl (by decide) (gO4 hF) dL_customerOf_5 he hCs 1 (by decide) (by rw [e1]; rfl) [(0, 10, 13, 28)] (0, 10, 17, 13) [] rfl (by decide) rfl (by decide) (fun z hz => by rcases List.mem_singleton.mp hz with rfl; exact ⟨by decide, 0, by decide, by decide, clL_28⟩) (by rw [e1]; exact clL_13) (by rw [e1]; exact caL_2) (Or.inr ⟨4, dL_customerOf_17, by rw [hnL]; decide, rfl⟩) ?_
      refine r_iconst (pc := 19) (v := 2) dL_customerOf_19 (by decide) ?_
      exact r_iretW dL_customerOf_20 (gEndW_s he (Nat.le_refl _) (Nat.le_refl _)) (by rw [gYs_u]; unfold gUo; rw [if_neg hz])
abbrev rmL_ordered : Room := { frames := 8, cells := 1, slots := 6, locals := 124 }
theorem cd_L_ordered : Cond.codeWith yL_ordered cL_ordered 5 (some .int) [(0, 10, 13, 28)] ∈ gG := gG_mem (List.mem_of_getElem? (i := 682) (by decide +kernel)) rfl
theorem nm_L_ordered : gNm yL_ordered 4 := by unfold gNm; decide +kernel
theorem wL_139 : Cond.methodLink RL 139 yL_ordered ∈ gG ∧ Cond.static yL_ordered ∈ gG ∧ Cond.initialized (yL_ordered).cls ∈ gG := ⟨gG_mem (List.mem_of_getElem? (i := 680) (by decide +kernel)) rfl, gG_mem (List.mem_of_getElem? (i := 681) (by decide +kernel)) rfl, gG_mem (List.mem_of_getElem? (i := 72) (by decide +kernel)) rfl⟩
set_option maxHeartbeats 4000000 in
set_option maxRecDepth 100000 in
theorem tL_ordered (l : Launch) (hlt : l.stackTraces = false) (G : gX) (u : gU) (hF : gFull u) (p1 : Int32) (p2 : Int32) (m : gM) (o : gM × Nat × Int32) (h : fX5_ordered p1 p2 m = some o) (k : Int32) (hk : gKd [1] o.2.1 = some k) : gMetW l G u (gUo u o) yL_ordered (.codeWith yL_ordered cL_ordered 5 (some .int) [(0, 10, 13, 28)]) rmL_ordered [.ref 0, .int p1, .int p2, .ref 10470] m o.1 (some (.int k)) := by
  refine gMetW_of (own := RL) (k := 1) (by decide) rfl ⟨rfl, rfl⟩ (Nat.le_of_ble_eq_true rfl) [some (.ref 0), some (.int p1), some (.int p2), some (.ref 10470), none] rfl (fun Y hG hu hnL hLn hRm hCs he => ?_)
  subst hG hu hLn
  by_cases hz : o.2.1 = 0
  · have hk0 := gKd_ret hk hz
    subst hk0
    refine r_aload_n (pc := 0) dL_ordered_0 rfl rfl ?_
    refine r_iconst (pc := 1) (v := 0) dL_ordered_1 (by decide) ?_
    refine r_aload_n (pc := 2) dL_ordered_2 rfl rfl ?_
    refine r_iload_n (pc := 3) dL_ordered_3 rfl rfl ?_
    refine r_iload_n (pc := 4) dL_ordered_4 rfl rfl ?_
    refine r_callV (kd := 4) (pc := 5) [.int _, .int _] (tX5_ordered _ _ _ hF _ _ _ _ h hz) ⟨rfl, rfl⟩ cd_X5_ordered wL_30 nm_X5_ordered rfl (by rw [hRm]; decide) rfl (Nat.le_of_ble_eq_true rfl) rfl (by decide) (gO4 hF) dL_ordered_5 ?_
    refine r_i2l (pc := 8) dL_ordered_8 ?_
    refine r_last (pc := 9) dL_ordered_9 (gOout hF) ?_
    refine r_goto (pc := 10) (tgt := 17) dL_ordered_10 (by decide) ?_
    refine r_iconst (pc := 17) (v := 0) dL_ordered_17 (by decide) ?_
    exact r_iretW dL_ordered_18 (gEndW_s he (by rw [hCs]; decide) (by rw [hCs]; decide)) (by rw [gYs_u]; unfold gUo; rw [if_pos hz])
  · obtain ⟨e0, rfl⟩ := gKd1 hk hz
    refine r_aload_n (pc := 0) dL_ordered_0 rfl rfl ?_
    refine r_iconst (pc := 1) (v := 0) dL_ordered_1 (by decide) ?_
    refine r_aload_n (pc := 2) dL_ordered_2 rfl rfl ?_
    refine r_iload_n (pc := 3) dL_ordered_3 rfl rfl ?_
    refine r_iload_n (pc := 4) dL_ordered_4 rfl rfl ?_
    refine r_callVC (kd := 4) (pc := 5) (hp := 13) (hp1 := 15) [.int _, .int _] (tX5_orderedT _ hlt _ _ hF _ _ _ _ h hz) ⟨rfl, rfl⟩ cd_X5_ordered wL_30 nm_X5_ordered rfl (by rw [hRm]; decide) rfl (Nat.le_of_ble_eq_true rfl) rfl (by decide) (gO4 hF) dL_ordered_5 he hCs 0 (by decide) (by rw [e0]; rfl) [] (0, 10, 13, 28) [] rfl (by decide) rfl (by decide) (fun _ hz => nomatch hz) (by rw [e0]; exact clL_28) (by rw [e0]; exact caL_1) (Or.inr ⟨4, dL_ordered_13, by rw [hnL]; decide, rfl⟩) ?_
    refine r_iconst (pc := 15) (v := 1) dL_ordered_15 (by decide) ?_
    exact r_iretW dL_ordered_16 (gEndW_s he (Nat.le_refl _) (Nat.le_refl _)) (by rw [gYs_u]; unfold gUo; rw [if_neg hz])
abbrev rmL_away : Room := { frames := 8, cells := 1, slots := 6, locals := 126 }
theorem cd_L_away : Cond.codeWith yL_away cL_away 6 (some .int) [(0, 12, 15, 28), (0, 12, 19, 13)] ∈ gG := gG_mem (List.mem_of_getElem? (i := 690) (by decide +kernel)) rfl
theorem nm_L_away : gNm yL_away 5 := by unfold gNm; decide +kernel
theorem wL_142 : Cond.methodLink RL 142 yL_away ∈ gG ∧ Cond.static yL_away ∈ gG ∧ Cond.initialized (yL_away).cls ∈ gG := ⟨gG_mem (List.mem_of_getElem? (i := 688) (by decide +kernel)) rfl, gG_mem (List.mem_of_getElem? (i := 689) (by decide +kernel)) rfl, gG_mem (List.mem_of_getElem? (i := 72) (by decide +kernel)) rfl⟩
set_option maxHeartbeats 4000000 in
set_option maxRecDepth 100000 in
theorem tL_away (l : Launch) (hlt : l.stackTraces = false) (G : gX) (u : gU) (hF : gFull u) (p1 : Int32) (p2 : Int32) (p3 : Int32) (m : gM) (o : gM × Nat × Int32) (h : fX5_away p1 p2 p3 m = some o) (k : Int32) (hk : gKd [1, 2] o.2.1 = some k) : gMetW l G u (gUo u o) yL_away (.codeWith yL_away cL_away 6 (some .int) [(0, 12, 15, 28), (0, 12, 19, 13)]) rmL_away [.ref 0, .int p1, .int p2, .int p3, .ref 10470] m o.1 (some (.int k)) := by
  refine gMetW_of (own := RL) (k := 1) (by decide) rfl ⟨rfl, rfl⟩ (Nat.le_of_ble_eq_true rfl) [some (.ref 0), some (.int p1), some (.int p2), some (.int p3), some (.ref 10470), none] rfl (fun Y hG hu hnL hLn hRm hCs he => ?_)
  subst hG hu hLn
  by_cases hz : o.2.1 = 0
  · have hk0 := gKd_ret hk hz
    subst hk0
    refine r_aload (pc := 0) dL_away_0 rfl ?_
    refine r_iconst (pc := 2) (v := 0) dL_away_2 (by decide) ?_
    refine r_aload_n (pc := 3) dL_away_3 rfl rfl ?_
    refine r_iload_n (pc := 4) dL_away_4 rfl rfl ?_
    refine r_iload_n (pc := 5) dL_away_5 rfl rfl ?_
    refine r_iload_n (pc := 6) dL_away_6 rfl rfl ?_
    refine r_callV (kd := 4) (pc := 7) [.int _, .int _, .int _] (tX5_away _ _ _ hF _ _ _ _ _ h hz) ⟨rfl, rfl⟩ cd_X5_away wL_33 nm_X5_away rfl (by rw [hRm]; decide) rfl (Nat.le_of_ble_eq_true rfl) rfl (by decide) (gO4 hF) dL_away_7 ?_
    refine r_i2l (pc := 10) dL_away_10 ?_
    refine r_last (pc := 11) dL_away_11 (gOout hF) ?_
    refine r_goto (pc := 12) (tgt := 23) dL_away_12 (by decide) ?_
    refine r_iconst (pc := 23) (v := 0) dL_away_23 (by decide) ?_
    exact r_iretW dL_away_24 (gEndW_s he (by rw [hCs]; decide) (by rw [hCs]; decide)) (by rw [gYs_u]; unfold gUo; rw [if_pos hz])
  · rcases gKd2 hk hz with ⟨e0, rfl⟩ | ⟨e1, rfl⟩
    · refine r_aload (pc := 0) dL_away_0 rfl ?_
      refine r_iconst (pc := 2) (v := 0) dL_away_2 (by decide) ?_
      refine r_aload_n (pc := 3) dL_away_3 rfl rfl ?_
      refine r_iload_n (pc := 4) dL_away_4 rfl rfl ?_
      refine r_iload_n (pc := 5) dL_away_5 rfl rfl ?_
      refine r_iload_n (pc := 6) dL_away_6 rfl rfl ?_
      refine r_callVC (kd := 4) (pc := 7) (hp := 15) (hp1 := 17) [.int _, .int _, .int _] (tX5_awayT _ hlt _ _ hF _ _ _ _ _ h hz) ⟨rfl, rfl⟩ cd_X5_away wL_33 nm_X5_away rfl (by rw [hRm]; decide) rfl (Nat.le_of_ble_eq_true rfl) rfl (by decide) (gO4 hF) dL_away_7 he hCs 0 (by decide) (by rw [e0]; rfl) [] (0, 12, 15, 28) [(0, 12, 19, 13)] rfl (by decide) rfl (by decide) (fun _ hz => nomatch hz) (by rw [e0]; exact clL_28) (by rw [e0]; exact caL_1) (Or.inr ⟨5, dL_away_15, by rw [hnL]; decide, rfl⟩) ?_
      refine r_iconst (pc := 17) (v := 1) dL_away_17 (by decide) ?_
      exact r_iretW dL_away_18 (gEndW_s he (Nat.le_refl _) (Nat.le_refl _)) (by rw [gYs_u]; unfold gUo; rw [if_neg hz])
    · refine r_aload (pc := 0) dL_away_0 rfl ?_
      refine r_iconst (pc := 2) (v := 0) dL_away_2 (by decide) ?_
      refine r_aload_n (pc := 3) dL_away_3 rfl rfl ?_
      refine r_iload_n (pc := 4) dL_away_4 rfl rfl ?_
      refine r_iload_n (pc := 5) dL_away_5 rfl rfl ?_
      refine r_iload_n (pc := 6) dL_away_6 rfl rfl ?_
      refine r_callVC (kd := 4) (pc := 7) (hp := 19) (hp1 := 21) [.int _, .int _, .int _] (tX5_awayT _ hlt _ _ hF _ _ _ _ _ h hz) ⟨rfl, rfl⟩ cd_X5_away wL_33 nm_X5_away rfl (by rw [hRm]; decide) rfl (Nat.le_of_ble_eq_true rfl) rfl (by decide) (gO4 hF) dL_away_7 he hCs 1 (by decide) (by rw [e1]; rfl) [(0, 12, 15, 28)] (0, 12, 19, 13) [] rfl (by decide) rfl (by decide) (fun z hz => by rcases List.mem_singleton.mp hz with rfl; exact ⟨by decide, 0, by decide, by decide, clL_28⟩) (by rw [e1]; exact clL_13) (by rw [e1]; exact caL_2) (Or.inr ⟨5, dL_away_19, by rw [hnL]; decide, rfl⟩) ?_
      refine r_iconst (pc := 21) (v := 2) dL_away_21 (by decide) ?_
      exact r_iretW dL_away_22 (gEndW_s he (Nat.le_refl _) (Nat.le_refl _)) (by rw [gYs_u]; unfold gUo; rw [if_neg hz])
abbrev rmL_isClosed : Room := { frames := 8, cells := 1, slots := 6, locals := 124 }
theorem cd_L_isClosed : Cond.codeWith yL_isClosed cL_isClosed 5 (some .int) [(0, 10, 13, 28)] ∈ gG := gG_mem (List.mem_of_getElem? (i := 697) (by decide +kernel)) rfl
theorem nm_L_isClosed : gNm yL_isClosed 4 := by unfold gNm; decide +kernel
theorem wL_146 : Cond.methodLink RL 146 yL_isClosed ∈ gG ∧ Cond.static yL_isClosed ∈ gG ∧ Cond.initialized (yL_isClosed).cls ∈ gG := ⟨gG_mem (List.mem_of_getElem? (i := 695) (by decide +kernel)) rfl, gG_mem (List.mem_of_getElem? (i := 696) (by decide +kernel)) rfl, gG_mem (List.mem_of_getElem? (i := 72) (by decide +kernel)) rfl⟩
set_option maxHeartbeats 4000000 in
set_option maxRecDepth 100000 in
theorem tL_isClosed (l : Launch) (hlt : l.stackTraces = false) (G : gX) (u : gU) (hF : gFull u) (p1 : Int32) (p2 : Int32) (m : gM) (o : gM × Nat × Int32) (h : fX5_isClosed p1 p2 m = some o) (k : Int32) (hk : gKd [1] o.2.1 = some k) : gMetW l G u (gUo u o) yL_isClosed (.codeWith yL_isClosed cL_isClosed 5 (some .int) [(0, 10, 13, 28)]) rmL_isClosed [.ref 0, .int p1, .int p2, .ref 10470] m o.1 (some (.int k)) := by
  refine gMetW_of (own := RL) (k := 1) (by decide) rfl ⟨rfl, rfl⟩ (Nat.le_of_ble_eq_true rfl) [some (.ref 0), some (.int p1), some (.int p2), some (.ref 10470), none] rfl (fun Y hG hu hnL hLn hRm hCs he => ?_)
  subst hG hu hLn
  by_cases hz : o.2.1 = 0
  · have hk0 := gKd_ret hk hz
    subst hk0
    refine r_aload_n (pc := 0) dL_isClosed_0 rfl rfl ?_
    refine r_iconst (pc := 1) (v := 0) dL_isClosed_1 (by decide) ?_
    refine r_aload_n (pc := 2) dL_isClosed_2 rfl rfl ?_
    refine r_iload_n (pc := 3) dL_isClosed_3 rfl rfl ?_
    refine r_iload_n (pc := 4) dL_isClosed_4 rfl rfl ?_
    refine r_callV (kd := 4) (pc := 5) [.int _, .int _] (tX5_isClosed _ _ _ hF _ _ _ _ h hz) ⟨rfl, rfl⟩ cd_X5_isClosed wL_37 nm_X5_isClosed rfl (by rw [hRm]; decide) rfl (Nat.le_of_ble_eq_true rfl) rfl (by decide) (gO4 hF) dL_isClosed_5 ?_
    refine r_i2l (pc := 8) dL_isClosed_8 ?_
    refine r_last (pc := 9) dL_isClosed_9 (gOout hF) ?_
    refine r_goto (pc := 10) (tgt := 17) dL_isClosed_10 (by decide) ?_
    refine r_iconst (pc := 17) (v := 0) dL_isClosed_17 (by decide) ?_
    exact r_iretW dL_isClosed_18 (gEndW_s he (by rw [hCs]; decide) (by rw [hCs]; decide)) (by rw [gYs_u]; unfold gUo; rw [if_pos hz])
  · obtain ⟨e0, rfl⟩ := gKd1 hk hz
    refine r_aload_n (pc := 0) dL_isClosed_0 rfl rfl ?_
    refine r_iconst (pc := 1) (v := 0) dL_isClosed_1 (by decide) ?_
    refine r_aload_n (pc := 2) dL_isClosed_2 rfl rfl ?_
    refine r_iload_n (pc := 3) dL_isClosed_3 rfl rfl ?_
    refine r_iload_n (pc := 4) dL_isClosed_4 rfl rfl ?_
    refine r_callVC (kd := 4) (pc := 5) (hp := 13) (hp1 := 15) [.int _, .int _] (tX5_isClosedT _ hlt _ _ hF _ _ _ _ h hz) ⟨rfl, rfl⟩ cd_X5_isClosed wL_37 nm_X5_isClosed rfl (by rw [hRm]; decide) rfl (Nat.le_of_ble_eq_true rfl) rfl (by decide) (gO4 hF) dL_isClosed_5 he hCs 0 (by decide) (by rw [e0]; rfl) [] (0, 10, 13, 28) [] rfl (by decide) rfl (by decide) (fun _ hz => nomatch hz) (by rw [e0]; exact clL_28) (by rw [e0]; exact caL_1) (Or.inr ⟨4, dL_isClosed_13, by rw [hnL]; decide, rfl⟩) ?_
    refine r_iconst (pc := 15) (v := 1) dL_isClosed_15 (by decide) ?_
    exact r_iretW dL_isClosed_16 (gEndW_s he (Nat.le_refl _) (Nat.le_refl _)) (by rw [gYs_u]; unfold gUo; rw [if_neg hz])
abbrev rmL_round : Room := { frames := 8, cells := 1, slots := 6, locals := 123 }
theorem cd_L_round : Cond.codeWith yL_round cL_round 4 (some .int) [(0, 9, 12, 28)] ∈ gG := gG_mem (List.mem_of_getElem? (i := 706) (by decide +kernel)) rfl
theorem nm_L_round : gNm yL_round 3 := by unfold gNm; decide +kernel
theorem wL_149 : Cond.methodLink RL 149 yL_round ∈ gG ∧ Cond.static yL_round ∈ gG ∧ Cond.initialized (yL_round).cls ∈ gG := ⟨gG_mem (List.mem_of_getElem? (i := 704) (by decide +kernel)) rfl, gG_mem (List.mem_of_getElem? (i := 705) (by decide +kernel)) rfl, gG_mem (List.mem_of_getElem? (i := 72) (by decide +kernel)) rfl⟩
set_option maxHeartbeats 4000000 in
set_option maxRecDepth 100000 in
theorem tL_round (l : Launch) (hlt : l.stackTraces = false) (G : gX) (u : gU) (hF : gFull u) (p1 : Int32) (m : gM) (o : gM × Nat × Int32) (h : fX5_round p1 m = some o) (k : Int32) (hk : gKd [1] o.2.1 = some k) : gMetW l G u (gUo u o) yL_round (.codeWith yL_round cL_round 4 (some .int) [(0, 9, 12, 28)]) rmL_round [.ref 0, .int p1, .ref 10470] m o.1 (some (.int k)) := by
  refine gMetW_of (own := RL) (k := 1) (by decide) rfl ⟨rfl, rfl⟩ (Nat.le_of_ble_eq_true rfl) [some (.ref 0), some (.int p1), some (.ref 10470), none] rfl (fun Y hG hu hnL hLn hRm hCs he => ?_)
  subst hG hu hLn
  by_cases hz : o.2.1 = 0
  · have hk0 := gKd_ret hk hz
    subst hk0
    refine r_aload_n (pc := 0) dL_round_0 rfl rfl ?_
    refine r_iconst (pc := 1) (v := 0) dL_round_1 (by decide) ?_
    refine r_aload_n (pc := 2) dL_round_2 rfl rfl ?_
    refine r_iload_n (pc := 3) dL_round_3 rfl rfl ?_
    refine r_callV (kd := 4) (pc := 4) [.int _] (tX5_round _ _ _ hF _ _ _ h hz) ⟨rfl, rfl⟩ cd_X5_round wL_40 nm_X5_round rfl (by rw [hRm]; decide) rfl (Nat.le_of_ble_eq_true rfl) rfl (by decide) (gO4 hF) dL_round_4 ?_
    refine r_i2l (pc := 7) dL_round_7 ?_
    refine r_last (pc := 8) dL_round_8 (gOout hF) ?_
    refine r_goto (pc := 9) (tgt := 15) dL_round_9 (by decide) ?_
    refine r_iconst (pc := 15) (v := 0) dL_round_15 (by decide) ?_
    exact r_iretW dL_round_16 (gEndW_s he (by rw [hCs]; decide) (by rw [hCs]; decide)) (by rw [gYs_u]; unfold gUo; rw [if_pos hz])
  · obtain ⟨e0, rfl⟩ := gKd1 hk hz
    refine r_aload_n (pc := 0) dL_round_0 rfl rfl ?_
    refine r_iconst (pc := 1) (v := 0) dL_round_1 (by decide) ?_
    refine r_aload_n (pc := 2) dL_round_2 rfl rfl ?_
    refine r_iload_n (pc := 3) dL_round_3 rfl rfl ?_
    refine r_callVC (kd := 4) (pc := 4) (hp := 12) (hp1 := 13) [.int _] (tX5_roundT _ hlt _ _ hF _ _ _ h hz) ⟨rfl, rfl⟩ cd_X5_round wL_40 nm_X5_round rfl (by rw [hRm]; decide) rfl (Nat.le_of_ble_eq_true rfl) rfl (by decide) (gO4 hF) dL_round_4 he hCs 0 (by decide) (by rw [e0]; rfl) [] (0, 9, 12, 28) [] rfl (by decide) rfl (by decide) (fun _ hz => nomatch hz) (by rw [e0]; exact clL_28) (by rw [e0]; exact caL_1) (Or.inl ⟨3, 3, dL_round_12, rfl, by rw [hnL]; decide, rfl⟩) ?_
    refine r_iconst (pc := 13) (v := 1) dL_round_13 (by decide) ?_
    exact r_iretW dL_round_14 (gEndW_s he (Nat.le_refl _) (Nat.le_refl _)) (by rw [gYs_u]; unfold gUo; rw [if_neg hz])
abbrev rmL_setting : Room := { frames := 8, cells := 1, slots := 6, locals := 123 }
theorem cd_L_setting : Cond.codeWith yL_setting cL_setting 4 (some .int) [(0, 9, 12, 13)] ∈ gG := gG_mem (List.mem_of_getElem? (i := 713) (by decide +kernel)) rfl
theorem nm_L_setting : gNm yL_setting 3 := by unfold gNm; decide +kernel
theorem wL_152 : Cond.methodLink RL 152 yL_setting ∈ gG ∧ Cond.static yL_setting ∈ gG ∧ Cond.initialized (yL_setting).cls ∈ gG := ⟨gG_mem (List.mem_of_getElem? (i := 711) (by decide +kernel)) rfl, gG_mem (List.mem_of_getElem? (i := 712) (by decide +kernel)) rfl, gG_mem (List.mem_of_getElem? (i := 72) (by decide +kernel)) rfl⟩
set_option maxHeartbeats 4000000 in
set_option maxRecDepth 100000 in
theorem tL_setting (l : Launch) (hlt : l.stackTraces = false) (G : gX) (u : gU) (hF : gFull u) (p1 : Int32) (m : gM) (o : gM × Nat × Int32) (h : fX5_setting p1 m = some o) (k : Int32) (hk : gKd [2] o.2.1 = some k) : gMetW l G u (gUo u o) yL_setting (.codeWith yL_setting cL_setting 4 (some .int) [(0, 9, 12, 13)]) rmL_setting [.ref 0, .int p1, .ref 10470] m o.1 (some (.int k)) := by
  refine gMetW_of (own := RL) (k := 1) (by decide) rfl ⟨rfl, rfl⟩ (Nat.le_of_ble_eq_true rfl) [some (.ref 0), some (.int p1), some (.ref 10470), none] rfl (fun Y hG hu hnL hLn hRm hCs he => ?_)
  subst hG hu hLn
  by_cases hz : o.2.1 = 0
  · have hk0 := gKd_ret hk hz
    subst hk0
    refine r_aload_n (pc := 0) dL_setting_0 rfl rfl ?_
    refine r_iconst (pc := 1) (v := 0) dL_setting_1 (by decide) ?_
    refine r_aload_n (pc := 2) dL_setting_2 rfl rfl ?_
    refine r_iload_n (pc := 3) dL_setting_3 rfl rfl ?_
    refine r_callV (kd := 4) (pc := 4) [.int _] (tX5_setting _ _ _ hF _ _ _ h hz) ⟨rfl, rfl⟩ cd_X5_setting wL_43 nm_X5_setting rfl (by rw [hRm]; decide) rfl (Nat.le_of_ble_eq_true rfl) rfl (by decide) (gO4 hF) dL_setting_4 ?_
    refine r_i2l (pc := 7) dL_setting_7 ?_
    refine r_last (pc := 8) dL_setting_8 (gOout hF) ?_
    refine r_goto (pc := 9) (tgt := 15) dL_setting_9 (by decide) ?_
    refine r_iconst (pc := 15) (v := 0) dL_setting_15 (by decide) ?_
    exact r_iretW dL_setting_16 (gEndW_s he (by rw [hCs]; decide) (by rw [hCs]; decide)) (by rw [gYs_u]; unfold gUo; rw [if_pos hz])
  · obtain ⟨e0, rfl⟩ := gKd1 hk hz
    refine r_aload_n (pc := 0) dL_setting_0 rfl rfl ?_
    refine r_iconst (pc := 1) (v := 0) dL_setting_1 (by decide) ?_
    refine r_aload_n (pc := 2) dL_setting_2 rfl rfl ?_
    refine r_iload_n (pc := 3) dL_setting_3 rfl rfl ?_
    refine r_callVC (kd := 4) (pc := 4) (hp := 12) (hp1 := 13) [.int _] (tX5_settingT _ hlt _ _ hF _ _ _ h hz) ⟨rfl, rfl⟩ cd_X5_setting wL_43 nm_X5_setting rfl (by rw [hRm]; decide) rfl (Nat.le_of_ble_eq_true rfl) rfl (by decide) (gO4 hF) dL_setting_4 he hCs 1 (by decide) (by rw [e0]; rfl) [] (0, 9, 12, 13) [] rfl (by decide) rfl (by decide) (fun _ hz => nomatch hz) (by rw [e0]; exact clL_13) (by rw [e0]; exact caL_2) (Or.inl ⟨3, 3, dL_setting_12, rfl, by rw [hnL]; decide, rfl⟩) ?_
    refine r_iconst (pc := 13) (v := 1) dL_setting_13 (by decide) ?_
    exact r_iretW dL_setting_14 (gEndW_s he (Nat.le_refl _) (Nat.le_refl _)) (by rw [gYs_u]; unfold gUo; rw [if_neg hz])
abbrev rmL_due : Room := { frames := 8, cells := 1, slots := 6, locals := 127 }
theorem cd_L_due : Cond.codeWith yL_due cL_due 7 (some .int) [(0, 14, 17, 28), (0, 14, 21, 13)] ∈ gG := gG_mem (List.mem_of_getElem? (i := 721) (by decide +kernel)) rfl
theorem nm_L_due : gNm yL_due 6 := by unfold gNm; decide +kernel
theorem wL_155 : Cond.methodLink RL 155 yL_due ∈ gG ∧ Cond.static yL_due ∈ gG ∧ Cond.initialized (yL_due).cls ∈ gG := ⟨gG_mem (List.mem_of_getElem? (i := 719) (by decide +kernel)) rfl, gG_mem (List.mem_of_getElem? (i := 720) (by decide +kernel)) rfl, gG_mem (List.mem_of_getElem? (i := 72) (by decide +kernel)) rfl⟩
set_option maxHeartbeats 4000000 in
set_option maxRecDepth 100000 in
theorem tL_due (l : Launch) (hlt : l.stackTraces = false) (G : gX) (u : gU) (hF : gFull u) (p1 : Int32) (p2 : Int32) (p3 : Int32) (p4 : Int32) (m : gM) (o : gM × Nat × Int32) (h : fX5_due p1 p2 p3 p4 m = some o) (k : Int32) (hk : gKd [1, 2] o.2.1 = some k) : gMetW l G u (gUo u o) yL_due (.codeWith yL_due cL_due 7 (some .int) [(0, 14, 17, 28), (0, 14, 21, 13)]) rmL_due [.ref 0, .int p1, .int p2, .int p3, .int p4, .ref 10470] m o.1 (some (.int k)) := by
  refine gMetW_of (own := RL) (k := 1) (by decide) rfl ⟨rfl, rfl⟩ (Nat.le_of_ble_eq_true rfl) [some (.ref 0), some (.int p1), some (.int p2), some (.int p3), some (.int p4), some (.ref 10470), none] rfl (fun Y hG hu hnL hLn hRm hCs he => ?_)
  subst hG hu hLn
  by_cases hz : o.2.1 = 0
  · have hk0 := gKd_ret hk hz
    subst hk0
    refine r_aload (pc := 0) dL_due_0 rfl ?_
    refine r_iconst (pc := 2) (v := 0) dL_due_2 (by decide) ?_
    refine r_aload_n (pc := 3) dL_due_3 rfl rfl ?_
    refine r_iload_n (pc := 4) dL_due_4 rfl rfl ?_
    refine r_iload_n (pc := 5) dL_due_5 rfl rfl ?_
    refine r_iload_n (pc := 6) dL_due_6 rfl rfl ?_
    refine r_iload (pc := 7) dL_due_7 rfl ?_
    refine r_callV (kd := 4) (pc := 9) [.int _, .int _, .int _, .int _] (tX5_due _ _ _ hF _ _ _ _ _ _ h hz) ⟨rfl, rfl⟩ cd_X5_due wL_46 nm_X5_due rfl (by rw [hRm]; decide) rfl (Nat.le_of_ble_eq_true rfl) rfl (by decide) (gO4 hF) dL_due_9 ?_
    refine r_i2l (pc := 12) dL_due_12 ?_
    refine r_last (pc := 13) dL_due_13 (gOout hF) ?_
    refine r_goto (pc := 14) (tgt := 25) dL_due_14 (by decide) ?_
    refine r_iconst (pc := 25) (v := 0) dL_due_25 (by decide) ?_
    exact r_iretW dL_due_26 (gEndW_s he (by rw [hCs]; decide) (by rw [hCs]; decide)) (by rw [gYs_u]; unfold gUo; rw [if_pos hz])
  · rcases gKd2 hk hz with ⟨e0, rfl⟩ | ⟨e1, rfl⟩
    · refine r_aload (pc := 0) dL_due_0 rfl ?_
      refine r_iconst (pc := 2) (v := 0) dL_due_2 (by decide) ?_
      refine r_aload_n (pc := 3) dL_due_3 rfl rfl ?_
      refine r_iload_n (pc := 4) dL_due_4 rfl rfl ?_
      refine r_iload_n (pc := 5) dL_due_5 rfl rfl ?_
      refine r_iload_n (pc := 6) dL_due_6 rfl rfl ?_
      refine r_iload (pc := 7) dL_due_7 rfl ?_
      refine r_callVC (kd := 4) (pc := 9) (hp := 17) (hp1 := 19) [.int _, .int _, .int _, .int _] (tX5_dueT _ hlt _ _ hF _ _ _ _ _ _ h hz) ⟨rfl, rfl⟩ cd_X5_due wL_46 nm_X5_due rfl (by rw [hRm]; decide) rfl (Nat.le_of_ble_eq_true rfl) rfl (by decide) (gO4 hF) dL_due_9 he hCs 0 (by decide) (by rw [e0]; rfl) [] (0, 14, 17, 28) [(0, 14, 21, 13)] rfl (by decide) rfl (by decide) (fun _ hz => nomatch hz) (by rw [e0]; exact clL_28) (by rw [e0]; exact caL_1) (Or.inr ⟨6, dL_due_17, by rw [hnL]; decide, rfl⟩) ?_
      refine r_iconst (pc := 19) (v := 1) dL_due_19 (by decide) ?_
      exact r_iretW dL_due_20 (gEndW_s he (Nat.le_refl _) (Nat.le_refl _)) (by rw [gYs_u]; unfold gUo; rw [if_neg hz])
    · refine r_aload (pc := 0) dL_due_0 rfl ?_
      refine r_iconst (pc := 2) (v := 0) dL_due_2 (by decide) ?_
      refine r_aload_n (pc := 3) dL_due_3 rfl rfl ?_
      refine r_iload_n (pc := 4) dL_due_4 rfl rfl ?_
      refine r_iload_n (pc := 5) dL_due_5 rfl rfl ?_
      refine r_iload_n (pc := 6) dL_due_6 rfl rfl ?_
      refine r_iload (pc := 7) dL_due_7 rfl ?_
      refine r_callVC (kd := 4) (pc := 9) (hp := 21) (hp1 := 23) [.int _, .int _, .int _, .int _] (tX5_dueT _ hlt _ _ hF _ _ _ _ _ _ h hz) ⟨rfl, rfl⟩ cd_X5_due wL_46 nm_X5_due rfl (by rw [hRm]; decide) rfl (Nat.le_of_ble_eq_true rfl) rfl (by decide) (gO4 hF) dL_due_9 he hCs 1 (by decide) (by rw [e1]; rfl) [(0, 14, 17, 28)] (0, 14, 21, 13) [] rfl (by decide) rfl (by decide) (fun z hz => by rcases List.mem_singleton.mp hz with rfl; exact ⟨by decide, 0, by decide, by decide, clL_28⟩) (by rw [e1]; exact clL_13) (by rw [e1]; exact caL_2) (Or.inr ⟨6, dL_due_21, by rw [hnL]; decide, rfl⟩) ?_
      refine r_iconst (pc := 23) (v := 2) dL_due_23 (by decide) ?_
      exact r_iretW dL_due_24 (gEndW_s he (Nat.le_refl _) (Nat.le_refl _)) (by rw [gYs_u]; unfold gUo; rw [if_neg hz])
abbrev rmL_customer : Room := { frames := 9, cells := 1, slots := 6, locals := 166 }
theorem cd_L_customer : Cond.codeWith yL_customer cL_customer 5 (some .int) [(0, 10, 13, 28), (0, 10, 17, 13), (0, 10, 21, 15)] ∈ gG := gG_mem (List.mem_of_getElem? (i := 741) (by decide +kernel)) rfl
theorem nm_L_customer : gNm yL_customer 4 := by unfold gNm; decide +kernel
theorem wL_159 : Cond.methodLink RL 159 yL_customer ∈ gG ∧ Cond.static yL_customer ∈ gG ∧ Cond.initialized (yL_customer).cls ∈ gG := ⟨gG_mem (List.mem_of_getElem? (i := 739) (by decide +kernel)) rfl, gG_mem (List.mem_of_getElem? (i := 740) (by decide +kernel)) rfl, gG_mem (List.mem_of_getElem? (i := 72) (by decide +kernel)) rfl⟩
set_option maxHeartbeats 4000000 in
set_option maxRecDepth 100000 in
theorem tL_customer (l : Launch) (hlt : l.stackTraces = false) (G : gX) (u : gU) (hF : gFull u) (p1 : Int32) (p2 : Int32) (m : gM) (o : gM × Nat × Int32) (h : fX5_customer p1 p2 m = some o) (k : Int32) (hk : gKd [1, 2, 3] o.2.1 = some k) : gMetW l G u (gUo u o) yL_customer (.codeWith yL_customer cL_customer 5 (some .int) [(0, 10, 13, 28), (0, 10, 17, 13), (0, 10, 21, 15)]) rmL_customer [.ref 0, .int p1, .int p2, .ref 10470] m o.1 (some (.int k)) := by
  refine gMetW_of (own := RL) (k := 1) (by decide) rfl ⟨rfl, rfl⟩ (Nat.le_of_ble_eq_true rfl) [some (.ref 0), some (.int p1), some (.int p2), some (.ref 10470), none] rfl (fun Y hG hu hnL hLn hRm hCs he => ?_)
  subst hG hu hLn
  by_cases hz : o.2.1 = 0
  · have hk0 := gKd_ret hk hz
    subst hk0
    refine r_aload_n (pc := 0) dL_customer_0 rfl rfl ?_
    refine r_iconst (pc := 1) (v := 0) dL_customer_1 (by decide) ?_
    refine r_aload_n (pc := 2) dL_customer_2 rfl rfl ?_
    refine r_iload_n (pc := 3) dL_customer_3 rfl rfl ?_
    refine r_iload_n (pc := 4) dL_customer_4 rfl rfl ?_
    refine r_callV (kd := 4) (pc := 5) [.int _, .int _] (tX5_customer _ _ _ hF _ _ _ _ h hz) ⟨rfl, rfl⟩ cd_X5_customer wL_50 nm_X5_customer rfl (by rw [hRm]; decide) rfl (Nat.le_of_ble_eq_true rfl) rfl (by decide) (gO4 hF) dL_customer_5 ?_
    refine r_i2l (pc := 8) dL_customer_8 ?_
    refine r_last (pc := 9) dL_customer_9 (gOout hF) ?_
    refine r_goto (pc := 10) (tgt := 25) dL_customer_10 (by decide) ?_
    refine r_iconst (pc := 25) (v := 0) dL_customer_25 (by decide) ?_
    exact r_iretW dL_customer_26 (gEndW_s he (by rw [hCs]; decide) (by rw [hCs]; decide)) (by rw [gYs_u]; unfold gUo; rw [if_pos hz])
  · rcases gKd3 hk hz with ⟨e0, rfl⟩ | ⟨e1, rfl⟩ | ⟨e2, rfl⟩
    · refine r_aload_n (pc := 0) dL_customer_0 rfl rfl ?_
      refine r_iconst (pc := 1) (v := 0) dL_customer_1 (by decide) ?_
      refine r_aload_n (pc := 2) dL_customer_2 rfl rfl ?_
      refine r_iload_n (pc := 3) dL_customer_3 rfl rfl ?_
      refine r_iload_n (pc := 4) dL_customer_4 rfl rfl ?_
      refine r_callVC (kd := 4) (pc := 5) (hp := 13) (hp1 := 15) [.int _, .int _] (tX5_customerT _ hlt _ _ hF _ _ _ _ h hz) ⟨rfl, rfl⟩ cd_X5_customer wL_50 nm_X5_customer rfl (by rw [hRm]; decide) rfl (Nat.le_of_ble_eq_true rfl) rfl (by decide) (gO4 hF) dL_customer_5 he hCs 0 (by decide) (by rw [e0]; rfl) [] (0, 10, 13, 28) [(0, 10, 17, 13), (0, 10, 21, 15)] rfl (by decide) rfl (by decide) (fun _ hz => nomatch hz) (by rw [e0]; exact clL_28) (by rw [e0]; exact caL_1) (Or.inr ⟨4, dL_customer_13, by rw [hnL]; decide, rfl⟩) ?_
      refine r_iconst (pc := 15) (v := 1) dL_customer_15 (by decide) ?_
      exact r_iretW dL_customer_16 (gEndW_s he (Nat.le_refl _) (Nat.le_refl _)) (by rw [gYs_u]; unfold gUo; rw [if_neg hz])
    · refine r_aload_n (pc := 0) dL_customer_0 rfl rfl ?_
      refine r_iconst (pc := 1) (v := 0) dL_customer_1 (by decide) ?_
      refine r_aload_n (pc := 2) dL_customer_2 rfl rfl ?_
      refine r_iload_n (pc := 3) dL_customer_3 rfl rfl ?_
      refine r_iload_n (pc := 4) dL_customer_4 rfl rfl ?_
      refine r_callVC (kd := 4) (pc := 5) (hp := 17) (hp1 := 19) [.int _, .int _] (tX5_customerT _ hlt _ _ hF _ _ _ _ h hz) ⟨rfl, rfl⟩ cd_X5_customer wL_50 nm_X5_customer rfl (by rw [hRm]; decide) rfl (Nat.le_of_ble_eq_true rfl) rfl (by decide) (gO4 hF) dL_customer_5 he hCs 1 (by decide) (by rw [e1]; rfl) [(0, 10, 13, 28)] (0, 10, 17, 13) [(0, 10, 21, 15)] rfl (by decide) rfl (by decide) (fun z hz => by rcases List.mem_singleton.mp hz with rfl; exact ⟨by decide, 0, by decide, by decide, clL_28⟩) (by rw [e1]; exact clL_13) (by rw [e1]; exact caL_2) (Or.inr ⟨4, dL_customer_17, by rw [hnL]; decide, rfl⟩) ?_
      refine r_iconst (pc := 19) (v := 2) dL_customer_19 (by decide) ?_
      exact r_iretW dL_customer_20 (gEndW_s he (Nat.le_refl _) (Nat.le_refl _)) (by rw [gYs_u]; unfold gUo; rw [if_neg hz])
    · refine r_aload_n (pc := 0) dL_customer_0 rfl rfl ?_
      refine r_iconst (pc := 1) (v := 0) dL_customer_1 (by decide) ?_
      refine r_aload_n (pc := 2) dL_customer_2 rfl rfl ?_
      refine r_iload_n (pc := 3) dL_customer_3 rfl rfl ?_
      refine r_iload_n (pc := 4) dL_customer_4 rfl rfl ?_
      refine r_callVC (kd := 4) (pc := 5) (hp := 21) (hp1 := 23) [.int _, .int _] (tX5_customerT _ hlt _ _ hF _ _ _ _ h hz) ⟨rfl, rfl⟩ cd_X5_customer wL_50 nm_X5_customer rfl (by rw [hRm]; decide) rfl (Nat.le_of_ble_eq_true rfl) rfl (by decide) (gO4 hF) dL_customer_5 he hCs 2 (by decide) (by rw [e2]; rfl) [(0, 10, 13, 28), (0, 10, 17, 13)] (0, 10, 21, 15) [] rfl (by decide) rfl (by decide) (fun z hz => by
        rcases List.mem_cons.mp hz with rfl | hz
        · exact ⟨by decide, 0, by decide, by decide, clL_28⟩
        · rcases List.mem_singleton.mp hz with rfl
          exact ⟨by decide, 1, by decide, by decide, clL_13⟩) (by rw [e2]; exact clL_15) (by rw [e2]; exact caL_3) (Or.inr ⟨4, dL_customer_21, by rw [hnL]; decide, rfl⟩) ?_
      refine r_iconst (pc := 23) (v := 3) dL_customer_23 (by decide) ?_
      exact r_iretW dL_customer_24 (gEndW_s he (Nat.le_refl _) (Nat.le_refl _)) (by rw [gYs_u]; unfold gUo; rw [if_neg hz])
abbrev rmL_change : Room := { frames := 9, cells := 1, slots := 6, locals := 167 }
theorem cd_L_change : Cond.codeWith yL_change cL_change 6 (some .int) [(0, 12, 15, 28), (0, 12, 19, 13)] ∈ gG := gG_mem (List.mem_of_getElem? (i := 771) (by decide +kernel)) rfl
theorem nm_L_change : gNm yL_change 5 := by unfold gNm; decide +kernel
theorem wL_162 : Cond.methodLink RL 162 yL_change ∈ gG ∧ Cond.static yL_change ∈ gG ∧ Cond.initialized (yL_change).cls ∈ gG := ⟨gG_mem (List.mem_of_getElem? (i := 769) (by decide +kernel)) rfl, gG_mem (List.mem_of_getElem? (i := 770) (by decide +kernel)) rfl, gG_mem (List.mem_of_getElem? (i := 72) (by decide +kernel)) rfl⟩
set_option maxHeartbeats 4000000 in
set_option maxRecDepth 100000 in
theorem tL_change (l : Launch) (hlt : l.stackTraces = false) (G : gX) (u : gU) (hF : gFull u) (p1 : Int32) (p2 : Int32) (p3 : Int32) (m : gM) (o : gM × Nat × Int32) (h : fX5_change p1 p2 p3 m = some o) (k : Int32) (hk : gKd [1, 2] o.2.1 = some k) : gMetW l G u (gUo u o) yL_change (.codeWith yL_change cL_change 6 (some .int) [(0, 12, 15, 28), (0, 12, 19, 13)]) rmL_change [.ref 0, .int p1, .int p2, .int p3, .ref 10470] m o.1 (some (.int k)) := by
  refine gMetW_of (own := RL) (k := 1) (by decide) rfl ⟨rfl, rfl⟩ (Nat.le_of_ble_eq_true rfl) [some (.ref 0), some (.int p1), some (.int p2), some (.int p3), some (.ref 10470), none] rfl (fun Y hG hu hnL hLn hRm hCs he => ?_)
  subst hG hu hLn
  by_cases hz : o.2.1 = 0
  · have hk0 := gKd_ret hk hz
    subst hk0
    refine r_aload (pc := 0) dL_change_0 rfl ?_
    refine r_iconst (pc := 2) (v := 0) dL_change_2 (by decide) ?_
    refine r_aload_n (pc := 3) dL_change_3 rfl rfl ?_
    refine r_iload_n (pc := 4) dL_change_4 rfl rfl ?_
    refine r_iload_n (pc := 5) dL_change_5 rfl rfl ?_
    refine r_iload_n (pc := 6) dL_change_6 rfl rfl ?_
    refine r_callV (kd := 4) (pc := 7) [.int _, .int _, .int _] (tX5_change _ _ _ hF _ _ _ _ _ h hz) ⟨rfl, rfl⟩ cd_X5_change wL_53 nm_X5_change rfl (by rw [hRm]; decide) rfl (Nat.le_of_ble_eq_true rfl) rfl (by decide) (gO4 hF) dL_change_7 ?_
    refine r_i2l (pc := 10) dL_change_10 ?_
    refine r_last (pc := 11) dL_change_11 (gOout hF) ?_
    refine r_goto (pc := 12) (tgt := 23) dL_change_12 (by decide) ?_
    refine r_iconst (pc := 23) (v := 0) dL_change_23 (by decide) ?_
    exact r_iretW dL_change_24 (gEndW_s he (by rw [hCs]; decide) (by rw [hCs]; decide)) (by rw [gYs_u]; unfold gUo; rw [if_pos hz])
  · rcases gKd2 hk hz with ⟨e0, rfl⟩ | ⟨e1, rfl⟩
    · refine r_aload (pc := 0) dL_change_0 rfl ?_
      refine r_iconst (pc := 2) (v := 0) dL_change_2 (by decide) ?_
      refine r_aload_n (pc := 3) dL_change_3 rfl rfl ?_
      refine r_iload_n (pc := 4) dL_change_4 rfl rfl ?_
      refine r_iload_n (pc := 5) dL_change_5 rfl rfl ?_
      refine r_iload_n (pc := 6) dL_change_6 rfl rfl ?_
      refine r_callVC (kd := 4) (pc := 7) (hp := 15) (hp1 := 17) [.int _, .int _, .int _] (tX5_changeT _ hlt _ _ hF _ _ _ _ _ h hz) ⟨rfl, rfl⟩ cd_X5_change wL_53 nm_X5_change rfl (by rw [hRm]; decide) rfl (Nat.le_of_ble_eq_true rfl) rfl (by decide) (gO4 hF) dL_change_7 he hCs 0 (by decide) (by rw [e0]; rfl) [] (0, 12, 15, 28) [(0, 12, 19, 13)] rfl (by decide) rfl (by decide) (fun _ hz => nomatch hz) (by rw [e0]; exact clL_28) (by rw [e0]; exact caL_1) (Or.inr ⟨5, dL_change_15, by rw [hnL]; decide, rfl⟩) ?_
      refine r_iconst (pc := 17) (v := 1) dL_change_17 (by decide) ?_
      exact r_iretW dL_change_18 (gEndW_s he (Nat.le_refl _) (Nat.le_refl _)) (by rw [gYs_u]; unfold gUo; rw [if_neg hz])
    · refine r_aload (pc := 0) dL_change_0 rfl ?_
      refine r_iconst (pc := 2) (v := 0) dL_change_2 (by decide) ?_
      refine r_aload_n (pc := 3) dL_change_3 rfl rfl ?_
      refine r_iload_n (pc := 4) dL_change_4 rfl rfl ?_
      refine r_iload_n (pc := 5) dL_change_5 rfl rfl ?_
      refine r_iload_n (pc := 6) dL_change_6 rfl rfl ?_
      refine r_callVC (kd := 4) (pc := 7) (hp := 19) (hp1 := 21) [.int _, .int _, .int _] (tX5_changeT _ hlt _ _ hF _ _ _ _ _ h hz) ⟨rfl, rfl⟩ cd_X5_change wL_53 nm_X5_change rfl (by rw [hRm]; decide) rfl (Nat.le_of_ble_eq_true rfl) rfl (by decide) (gO4 hF) dL_change_7 he hCs 1 (by decide) (by rw [e1]; rfl) [(0, 12, 15, 28)] (0, 12, 19, 13) [] rfl (by decide) rfl (by decide) (fun z hz => by rcases List.mem_singleton.mp hz with rfl; exact ⟨by decide, 0, by decide, by decide, clL_28⟩) (by rw [e1]; exact clL_13) (by rw [e1]; exact caL_2) (Or.inr ⟨5, dL_change_19, by rw [hnL]; decide, rfl⟩) ?_
      refine r_iconst (pc := 21) (v := 2) dL_change_21 (by decide) ?_
      exact r_iretW dL_change_22 (gEndW_s he (Nat.le_refl _) (Nat.le_refl _)) (by rw [gYs_u]; unfold gUo; rw [if_neg hz])
abbrev rmL_holiday : Room := { frames := 9, cells := 1, slots := 6, locals := 167 }
theorem cd_L_holiday : Cond.codeWith yL_holiday cL_holiday 6 (some .int) [(0, 12, 15, 28), (0, 12, 19, 13), (0, 12, 23, 15)] ∈ gG := gG_mem (List.mem_of_getElem? (i := 778) (by decide +kernel)) rfl
theorem nm_L_holiday : gNm yL_holiday 5 := by unfold gNm; decide +kernel
theorem wL_165 : Cond.methodLink RL 165 yL_holiday ∈ gG ∧ Cond.static yL_holiday ∈ gG ∧ Cond.initialized (yL_holiday).cls ∈ gG := ⟨gG_mem (List.mem_of_getElem? (i := 776) (by decide +kernel)) rfl, gG_mem (List.mem_of_getElem? (i := 777) (by decide +kernel)) rfl, gG_mem (List.mem_of_getElem? (i := 72) (by decide +kernel)) rfl⟩
set_option maxHeartbeats 4000000 in
set_option maxRecDepth 100000 in
theorem tL_holiday (l : Launch) (hlt : l.stackTraces = false) (G : gX) (u : gU) (hF : gFull u) (p1 : Int32) (p2 : Int32) (p3 : Int32) (m : gM) (o : gM × Nat × Int32) (h : fX5_holiday p1 p2 p3 m = some o) (k : Int32) (hk : gKd [1, 2, 3] o.2.1 = some k) : gMetW l G u (gUo u o) yL_holiday (.codeWith yL_holiday cL_holiday 6 (some .int) [(0, 12, 15, 28), (0, 12, 19, 13), (0, 12, 23, 15)]) rmL_holiday [.ref 0, .int p1, .int p2, .int p3, .ref 10470] m o.1 (some (.int k)) := by
  refine gMetW_of (own := RL) (k := 1) (by decide) rfl ⟨rfl, rfl⟩ (Nat.le_of_ble_eq_true rfl) [some (.ref 0), some (.int p1), some (.int p2), some (.int p3), some (.ref 10470), none] rfl (fun Y hG hu hnL hLn hRm hCs he => ?_)
  subst hG hu hLn
  by_cases hz : o.2.1 = 0
  · have hk0 := gKd_ret hk hz
    subst hk0
    refine r_aload (pc := 0) dL_holiday_0 rfl ?_
    refine r_iconst (pc := 2) (v := 0) dL_holiday_2 (by decide) ?_
    refine r_aload_n (pc := 3) dL_holiday_3 rfl rfl ?_
    refine r_iload_n (pc := 4) dL_holiday_4 rfl rfl ?_
    refine r_iload_n (pc := 5) dL_holiday_5 rfl rfl ?_
    refine r_iload_n (pc := 6) dL_holiday_6 rfl rfl ?_
    refine r_callV (kd := 4) (pc := 7) [.int _, .int _, .int _] (tX5_holiday _ _ _ hF _ _ _ _ _ h hz) ⟨rfl, rfl⟩ cd_X5_holiday wL_56 nm_X5_holiday rfl (by rw [hRm]; decide) rfl (Nat.le_of_ble_eq_true rfl) rfl (by decide) (gO4 hF) dL_holiday_7 ?_
    refine r_i2l (pc := 10) dL_holiday_10 ?_
    refine r_last (pc := 11) dL_holiday_11 (gOout hF) ?_
    refine r_goto (pc := 12) (tgt := 27) dL_holiday_12 (by decide) ?_
    refine r_iconst (pc := 27) (v := 0) dL_holiday_27 (by decide) ?_
    exact r_iretW dL_holiday_28 (gEndW_s he (by rw [hCs]; decide) (by rw [hCs]; decide)) (by rw [gYs_u]; unfold gUo; rw [if_pos hz])
  · rcases gKd3 hk hz with ⟨e0, rfl⟩ | ⟨e1, rfl⟩ | ⟨e2, rfl⟩
    · refine r_aload (pc := 0) dL_holiday_0 rfl ?_
      refine r_iconst (pc := 2) (v := 0) dL_holiday_2 (by decide) ?_
      refine r_aload_n (pc := 3) dL_holiday_3 rfl rfl ?_
      refine r_iload_n (pc := 4) dL_holiday_4 rfl rfl ?_
      refine r_iload_n (pc := 5) dL_holiday_5 rfl rfl ?_
      refine r_iload_n (pc := 6) dL_holiday_6 rfl rfl ?_
      refine r_callVC (kd := 4) (pc := 7) (hp := 15) (hp1 := 17) [.int _, .int _, .int _] (tX5_holidayT _ hlt _ _ hF _ _ _ _ _ h hz) ⟨rfl, rfl⟩ cd_X5_holiday wL_56 nm_X5_holiday rfl (by rw [hRm]; decide) rfl (Nat.le_of_ble_eq_true rfl) rfl (by decide) (gO4 hF) dL_holiday_7 he hCs 0 (by decide) (by rw [e0]; rfl) [] (0, 12, 15, 28) [(0, 12, 19, 13), (0, 12, 23, 15)] rfl (by decide) rfl (by decide) (fun _ hz => nomatch hz) (by rw [e0]; exact clL_28) (by rw [e0]; exact caL_1) (Or.inr ⟨5, dL_holiday_15, by rw [hnL]; decide, rfl⟩) ?_
      refine r_iconst (pc := 17) (v := 1) dL_holiday_17 (by decide) ?_
      exact r_iretW dL_holiday_18 (gEndW_s he (Nat.le_refl _) (Nat.le_refl _)) (by rw [gYs_u]; unfold gUo; rw [if_neg hz])
    · refine r_aload (pc := 0) dL_holiday_0 rfl ?_
      refine r_iconst (pc := 2) (v := 0) dL_holiday_2 (by decide) ?_
      refine r_aload_n (pc := 3) dL_holiday_3 rfl rfl ?_
      refine r_iload_n (pc := 4) dL_holiday_4 rfl rfl ?_
      refine r_iload_n (pc := 5) dL_holiday_5 rfl rfl ?_
      refine r_iload_n (pc := 6) dL_holiday_6 rfl rfl ?_
      refine r_callVC (kd := 4) (pc := 7) (hp := 19) (hp1 := 21) [.int _, .int _, .int _] (tX5_holidayT _ hlt _ _ hF _ _ _ _ _ h hz) ⟨rfl, rfl⟩ cd_X5_holiday wL_56 nm_X5_holiday rfl (by rw [hRm]; decide) rfl (Nat.le_of_ble_eq_true rfl) rfl (by decide) (gO4 hF) dL_holiday_7 he hCs 1 (by decide) (by rw [e1]; rfl) [(0, 12, 15, 28)] (0, 12, 19, 13) [(0, 12, 23, 15)] rfl (by decide) rfl (by decide) (fun z hz => by rcases List.mem_singleton.mp hz with rfl; exact ⟨by decide, 0, by decide, by decide, clL_28⟩) (by rw [e1]; exact clL_13) (by rw [e1]; exact caL_2) (Or.inr ⟨5, dL_holiday_19, by rw [hnL]; decide, rfl⟩) ?_
      refine r_iconst (pc := 21) (v := 2) dL_holiday_21 (by decide) ?_
      exact r_iretW dL_holiday_22 (gEndW_s he (Nat.le_refl _) (Nat.le_refl _)) (by rw [gYs_u]; unfold gUo; rw [if_neg hz])
    · refine r_aload (pc := 0) dL_holiday_0 rfl ?_
      refine r_iconst (pc := 2) (v := 0) dL_holiday_2 (by decide) ?_
      refine r_aload_n (pc := 3) dL_holiday_3 rfl rfl ?_
      refine r_iload_n (pc := 4) dL_holiday_4 rfl rfl ?_
      refine r_iload_n (pc := 5) dL_holiday_5 rfl rfl ?_
      refine r_iload_n (pc := 6) dL_holiday_6 rfl rfl ?_
      refine r_callVC (kd := 4) (pc := 7) (hp := 23) (hp1 := 25) [.int _, .int _, .int _] (tX5_holidayT _ hlt _ _ hF _ _ _ _ _ h hz) ⟨rfl, rfl⟩ cd_X5_holiday wL_56 nm_X5_holiday rfl (by rw [hRm]; decide) rfl (Nat.le_of_ble_eq_true rfl) rfl (by decide) (gO4 hF) dL_holiday_7 he hCs 2 (by decide) (by rw [e2]; rfl) [(0, 12, 15, 28), (0, 12, 19, 13)] (0, 12, 23, 15) [] rfl (by decide) rfl (by decide) (fun z hz => by
        rcases List.mem_cons.mp hz with rfl | hz
        · exact ⟨by decide, 0, by decide, by decide, clL_28⟩
        · rcases List.mem_singleton.mp hz with rfl
          exact ⟨by decide, 1, by decide, by decide, clL_13⟩) (by rw [e2]; exact clL_15) (by rw [e2]; exact caL_3) (Or.inr ⟨5, dL_holiday_23, by rw [hnL]; decide, rfl⟩) ?_
      refine r_iconst (pc := 25) (v := 3) dL_holiday_25 (by decide) ?_
      exact r_iretW dL_holiday_26 (gEndW_s he (Nat.le_refl _) (Nat.le_refl _)) (by rw [gYs_u]; unfold gUo; rw [if_neg hz])
abbrev rmL_drop : Room := { frames := 9, cells := 1, slots := 6, locals := 166 }
theorem cd_L_drop : Cond.codeWith yL_drop cL_drop 5 (some .int) [(0, 10, 13, 28)] ∈ gG := gG_mem (List.mem_of_getElem? (i := 785) (by decide +kernel)) rfl
theorem nm_L_drop : gNm yL_drop 4 := by unfold gNm; decide +kernel
theorem wL_168 : Cond.methodLink RL 168 yL_drop ∈ gG ∧ Cond.static yL_drop ∈ gG ∧ Cond.initialized (yL_drop).cls ∈ gG := ⟨gG_mem (List.mem_of_getElem? (i := 783) (by decide +kernel)) rfl, gG_mem (List.mem_of_getElem? (i := 784) (by decide +kernel)) rfl, gG_mem (List.mem_of_getElem? (i := 72) (by decide +kernel)) rfl⟩
set_option maxHeartbeats 4000000 in
set_option maxRecDepth 100000 in
theorem tL_drop (l : Launch) (hlt : l.stackTraces = false) (G : gX) (u : gU) (hF : gFull u) (p1 : Int32) (p2 : Int32) (m : gM) (o : gM × Nat × Int32) (h : fX5_drop p1 p2 m = some o) (k : Int32) (hk : gKd [1] o.2.1 = some k) : gMetW l G u (gUo u o) yL_drop (.codeWith yL_drop cL_drop 5 (some .int) [(0, 10, 13, 28)]) rmL_drop [.ref 0, .int p1, .int p2, .ref 10470] m o.1 (some (.int k)) := by
  refine gMetW_of (own := RL) (k := 1) (by decide) rfl ⟨rfl, rfl⟩ (Nat.le_of_ble_eq_true rfl) [some (.ref 0), some (.int p1), some (.int p2), some (.ref 10470), none] rfl (fun Y hG hu hnL hLn hRm hCs he => ?_)
  subst hG hu hLn
  by_cases hz : o.2.1 = 0
  · have hk0 := gKd_ret hk hz
    subst hk0
    refine r_aload_n (pc := 0) dL_drop_0 rfl rfl ?_
    refine r_iconst (pc := 1) (v := 0) dL_drop_1 (by decide) ?_
    refine r_aload_n (pc := 2) dL_drop_2 rfl rfl ?_
    refine r_iload_n (pc := 3) dL_drop_3 rfl rfl ?_
    refine r_iload_n (pc := 4) dL_drop_4 rfl rfl ?_
    refine r_callV (kd := 4) (pc := 5) [.int _, .int _] (tX5_drop _ _ _ hF _ _ _ _ h hz) ⟨rfl, rfl⟩ cd_X5_drop wL_59 nm_X5_drop rfl (by rw [hRm]; decide) rfl (Nat.le_of_ble_eq_true rfl) rfl (by decide) (gO4 hF) dL_drop_5 ?_
    refine r_i2l (pc := 8) dL_drop_8 ?_
    refine r_last (pc := 9) dL_drop_9 (gOout hF) ?_
    refine r_goto (pc := 10) (tgt := 17) dL_drop_10 (by decide) ?_
    refine r_iconst (pc := 17) (v := 0) dL_drop_17 (by decide) ?_
    exact r_iretW dL_drop_18 (gEndW_s he (by rw [hCs]; decide) (by rw [hCs]; decide)) (by rw [gYs_u]; unfold gUo; rw [if_pos hz])
  · obtain ⟨e0, rfl⟩ := gKd1 hk hz
    refine r_aload_n (pc := 0) dL_drop_0 rfl rfl ?_
    refine r_iconst (pc := 1) (v := 0) dL_drop_1 (by decide) ?_
    refine r_aload_n (pc := 2) dL_drop_2 rfl rfl ?_
    refine r_iload_n (pc := 3) dL_drop_3 rfl rfl ?_
    refine r_iload_n (pc := 4) dL_drop_4 rfl rfl ?_
    refine r_callVC (kd := 4) (pc := 5) (hp := 13) (hp1 := 15) [.int _, .int _] (tX5_dropT _ hlt _ _ hF _ _ _ _ h hz) ⟨rfl, rfl⟩ cd_X5_drop wL_59 nm_X5_drop rfl (by rw [hRm]; decide) rfl (Nat.le_of_ble_eq_true rfl) rfl (by decide) (gO4 hF) dL_drop_5 he hCs 0 (by decide) (by rw [e0]; rfl) [] (0, 10, 13, 28) [] rfl (by decide) rfl (by decide) (fun _ hz => nomatch hz) (by rw [e0]; exact clL_28) (by rw [e0]; exact caL_1) (Or.inr ⟨4, dL_drop_13, by rw [hnL]; decide, rfl⟩) ?_
    refine r_iconst (pc := 15) (v := 1) dL_drop_15 (by decide) ?_
    exact r_iretW dL_drop_16 (gEndW_s he (Nat.le_refl _) (Nat.le_refl _)) (by rw [gYs_u]; unfold gUo; rw [if_neg hz])
abbrev rmL_close : Room := { frames := 9, cells := 1, slots := 6, locals := 167 }
theorem cd_L_close : Cond.codeWith yL_close cL_close 6 (some .int) [(0, 12, 15, 28)] ∈ gG := gG_mem (List.mem_of_getElem? (i := 792) (by decide +kernel)) rfl
theorem nm_L_close : gNm yL_close 5 := by unfold gNm; decide +kernel
theorem wL_171 : Cond.methodLink RL 171 yL_close ∈ gG ∧ Cond.static yL_close ∈ gG ∧ Cond.initialized (yL_close).cls ∈ gG := ⟨gG_mem (List.mem_of_getElem? (i := 790) (by decide +kernel)) rfl, gG_mem (List.mem_of_getElem? (i := 791) (by decide +kernel)) rfl, gG_mem (List.mem_of_getElem? (i := 72) (by decide +kernel)) rfl⟩
set_option maxHeartbeats 4000000 in
set_option maxRecDepth 100000 in
theorem tL_close (l : Launch) (hlt : l.stackTraces = false) (G : gX) (u : gU) (hF : gFull u) (p1 : Int32) (p2 : Int32) (p3 : Int32) (m : gM) (o : gM × Nat × Int32) (h : fX5_close p1 p2 p3 m = some o) (k : Int32) (hk : gKd [1] o.2.1 = some k) : gMetW l G u (gUo u o) yL_close (.codeWith yL_close cL_close 6 (some .int) [(0, 12, 15, 28)]) rmL_close [.ref 0, .int p1, .int p2, .int p3, .ref 10470] m o.1 (some (.int k)) := by
  refine gMetW_of (own := RL) (k := 1) (by decide) rfl ⟨rfl, rfl⟩ (Nat.le_of_ble_eq_true rfl) [some (.ref 0), some (.int p1), some (.int p2), some (.int p3), some (.ref 10470), none] rfl (fun Y hG hu hnL hLn hRm hCs he => ?_)
  subst hG hu hLn
  by_cases hz : o.2.1 = 0
  · have hk0 := gKd_ret hk hz
    subst hk0
    refine r_aload (pc := 0) dL_close_0 rfl ?_
    refine r_iconst (pc := 2) (v := 0) dL_close_2 (by decide) ?_
    refine r_aload_n (pc := 3) dL_close_3 rfl rfl ?_
    refine r_iload_n (pc := 4) dL_close_4 rfl rfl ?_
    refine r_iload_n (pc := 5) dL_close_5 rfl rfl ?_
    refine r_iload_n (pc := 6) dL_close_6 rfl rfl ?_
    refine r_callV (kd := 4) (pc := 7) [.int _, .int _, .int _] (tX5_close _ _ _ hF _ _ _ _ _ h hz) ⟨rfl, rfl⟩ cd_X5_close wL_62 nm_X5_close rfl (by rw [hRm]; decide) rfl (Nat.le_of_ble_eq_true rfl) rfl (by decide) (gO4 hF) dL_close_7 ?_
    refine r_i2l (pc := 10) dL_close_10 ?_
    refine r_last (pc := 11) dL_close_11 (gOout hF) ?_
    refine r_goto (pc := 12) (tgt := 19) dL_close_12 (by decide) ?_
    refine r_iconst (pc := 19) (v := 0) dL_close_19 (by decide) ?_
    exact r_iretW dL_close_20 (gEndW_s he (by rw [hCs]; decide) (by rw [hCs]; decide)) (by rw [gYs_u]; unfold gUo; rw [if_pos hz])
  · obtain ⟨e0, rfl⟩ := gKd1 hk hz
    refine r_aload (pc := 0) dL_close_0 rfl ?_
    refine r_iconst (pc := 2) (v := 0) dL_close_2 (by decide) ?_
    refine r_aload_n (pc := 3) dL_close_3 rfl rfl ?_
    refine r_iload_n (pc := 4) dL_close_4 rfl rfl ?_
    refine r_iload_n (pc := 5) dL_close_5 rfl rfl ?_
    refine r_iload_n (pc := 6) dL_close_6 rfl rfl ?_
    refine r_callVC (kd := 4) (pc := 7) (hp := 15) (hp1 := 17) [.int _, .int _, .int _] (tX5_closeT _ hlt _ _ hF _ _ _ _ _ h hz) ⟨rfl, rfl⟩ cd_X5_close wL_62 nm_X5_close rfl (by rw [hRm]; decide) rfl (Nat.le_of_ble_eq_true rfl) rfl (by decide) (gO4 hF) dL_close_7 he hCs 0 (by decide) (by rw [e0]; rfl) [] (0, 12, 15, 28) [] rfl (by decide) rfl (by decide) (fun _ hz => nomatch hz) (by rw [e0]; exact clL_28) (by rw [e0]; exact caL_1) (Or.inr ⟨5, dL_close_15, by rw [hnL]; decide, rfl⟩) ?_
    refine r_iconst (pc := 17) (v := 1) dL_close_17 (by decide) ?_
    exact r_iretW dL_close_18 (gEndW_s he (Nat.le_refl _) (Nat.le_refl _)) (by rw [gYs_u]; unfold gUo; rw [if_neg hz])
abbrev rmL_swap : Room := { frames := 9, cells := 1, slots := 6, locals := 166 }
theorem cd_L_swap : Cond.codeWith yL_swap cL_swap 5 (some .int) [(0, 10, 13, 28)] ∈ gG := gG_mem (List.mem_of_getElem? (i := 799) (by decide +kernel)) rfl
theorem nm_L_swap : gNm yL_swap 4 := by unfold gNm; decide +kernel
theorem wL_175 : Cond.methodLink RL 175 yL_swap ∈ gG ∧ Cond.static yL_swap ∈ gG ∧ Cond.initialized (yL_swap).cls ∈ gG := ⟨gG_mem (List.mem_of_getElem? (i := 797) (by decide +kernel)) rfl, gG_mem (List.mem_of_getElem? (i := 798) (by decide +kernel)) rfl, gG_mem (List.mem_of_getElem? (i := 72) (by decide +kernel)) rfl⟩
set_option maxHeartbeats 4000000 in
set_option maxRecDepth 100000 in
theorem tL_swap (l : Launch) (hlt : l.stackTraces = false) (G : gX) (u : gU) (hF : gFull u) (p1 : Int32) (p2 : Int32) (m : gM) (o : gM × Nat × Int32) (h : fX5_swap p1 p2 m = some o) (k : Int32) (hk : gKd [1] o.2.1 = some k) : gMetW l G u (gUo u o) yL_swap (.codeWith yL_swap cL_swap 5 (some .int) [(0, 10, 13, 28)]) rmL_swap [.ref 0, .int p1, .int p2, .ref 10470] m o.1 (some (.int k)) := by
  refine gMetW_of (own := RL) (k := 1) (by decide) rfl ⟨rfl, rfl⟩ (Nat.le_of_ble_eq_true rfl) [some (.ref 0), some (.int p1), some (.int p2), some (.ref 10470), none] rfl (fun Y hG hu hnL hLn hRm hCs he => ?_)
  subst hG hu hLn
  by_cases hz : o.2.1 = 0
  · have hk0 := gKd_ret hk hz
    subst hk0
    refine r_aload_n (pc := 0) dL_swap_0 rfl rfl ?_
    refine r_iconst (pc := 1) (v := 0) dL_swap_1 (by decide) ?_
    refine r_aload_n (pc := 2) dL_swap_2 rfl rfl ?_
    refine r_iload_n (pc := 3) dL_swap_3 rfl rfl ?_
    refine r_iload_n (pc := 4) dL_swap_4 rfl rfl ?_
    refine r_callV (kd := 4) (pc := 5) [.int _, .int _] (tX5_swap _ _ _ hF _ _ _ _ h hz) ⟨rfl, rfl⟩ cd_X5_swap wL_66 nm_X5_swap rfl (by rw [hRm]; decide) rfl (Nat.le_of_ble_eq_true rfl) rfl (by decide) (gO4 hF) dL_swap_5 ?_
    refine r_i2l (pc := 8) dL_swap_8 ?_
    refine r_last (pc := 9) dL_swap_9 (gOout hF) ?_
    refine r_goto (pc := 10) (tgt := 17) dL_swap_10 (by decide) ?_
    refine r_iconst (pc := 17) (v := 0) dL_swap_17 (by decide) ?_
    exact r_iretW dL_swap_18 (gEndW_s he (by rw [hCs]; decide) (by rw [hCs]; decide)) (by rw [gYs_u]; unfold gUo; rw [if_pos hz])
  · obtain ⟨e0, rfl⟩ := gKd1 hk hz
    refine r_aload_n (pc := 0) dL_swap_0 rfl rfl ?_
    refine r_iconst (pc := 1) (v := 0) dL_swap_1 (by decide) ?_
    refine r_aload_n (pc := 2) dL_swap_2 rfl rfl ?_
    refine r_iload_n (pc := 3) dL_swap_3 rfl rfl ?_
    refine r_iload_n (pc := 4) dL_swap_4 rfl rfl ?_
    refine r_callVC (kd := 4) (pc := 5) (hp := 13) (hp1 := 15) [.int _, .int _] (tX5_swapT _ hlt _ _ hF _ _ _ _ h hz) ⟨rfl, rfl⟩ cd_X5_swap wL_66 nm_X5_swap rfl (by rw [hRm]; decide) rfl (Nat.le_of_ble_eq_true rfl) rfl (by decide) (gO4 hF) dL_swap_5 he hCs 0 (by decide) (by rw [e0]; rfl) [] (0, 10, 13, 28) [] rfl (by decide) rfl (by decide) (fun _ hz => nomatch hz) (by rw [e0]; exact clL_28) (by rw [e0]; exact caL_1) (Or.inr ⟨4, dL_swap_13, by rw [hnL]; decide, rfl⟩) ?_
    refine r_iconst (pc := 15) (v := 1) dL_swap_15 (by decide) ?_
    exact r_iretW dL_swap_16 (gEndW_s he (Nat.le_refl _) (Nat.le_refl _)) (by rw [gYs_u]; unfold gUo; rw [if_neg hz])
abbrev rmL_set : Room := { frames := 9, cells := 1, slots := 6, locals := 166 }
theorem cd_L_set : Cond.codeWith yL_set cL_set 5 (some .int) [(0, 10, 13, 13)] ∈ gG := gG_mem (List.mem_of_getElem? (i := 806) (by decide +kernel)) rfl
theorem nm_L_set : gNm yL_set 4 := by unfold gNm; decide +kernel
theorem wL_178 : Cond.methodLink RL 178 yL_set ∈ gG ∧ Cond.static yL_set ∈ gG ∧ Cond.initialized (yL_set).cls ∈ gG := ⟨gG_mem (List.mem_of_getElem? (i := 804) (by decide +kernel)) rfl, gG_mem (List.mem_of_getElem? (i := 805) (by decide +kernel)) rfl, gG_mem (List.mem_of_getElem? (i := 72) (by decide +kernel)) rfl⟩
set_option maxHeartbeats 4000000 in
set_option maxRecDepth 100000 in
theorem tL_set (l : Launch) (hlt : l.stackTraces = false) (G : gX) (u : gU) (hF : gFull u) (p1 : Int32) (p2 : Int32) (m : gM) (o : gM × Nat × Int32) (h : fX5_set p1 p2 m = some o) (k : Int32) (hk : gKd [2] o.2.1 = some k) : gMetW l G u (gUo u o) yL_set (.codeWith yL_set cL_set 5 (some .int) [(0, 10, 13, 13)]) rmL_set [.ref 0, .int p1, .int p2, .ref 10470] m o.1 (some (.int k)) := by
  refine gMetW_of (own := RL) (k := 1) (by decide) rfl ⟨rfl, rfl⟩ (Nat.le_of_ble_eq_true rfl) [some (.ref 0), some (.int p1), some (.int p2), some (.ref 10470), none] rfl (fun Y hG hu hnL hLn hRm hCs he => ?_)
  subst hG hu hLn
  by_cases hz : o.2.1 = 0
  · have hk0 := gKd_ret hk hz
    subst hk0
    refine r_aload_n (pc := 0) dL_set_0 rfl rfl ?_
    refine r_iconst (pc := 1) (v := 0) dL_set_1 (by decide) ?_
    refine r_aload_n (pc := 2) dL_set_2 rfl rfl ?_
    refine r_iload_n (pc := 3) dL_set_3 rfl rfl ?_
    refine r_iload_n (pc := 4) dL_set_4 rfl rfl ?_
    refine r_callV (kd := 4) (pc := 5) [.int _, .int _] (tX5_set _ _ _ hF _ _ _ _ h hz) ⟨rfl, rfl⟩ cd_X5_set wL_69 nm_X5_set rfl (by rw [hRm]; decide) rfl (Nat.le_of_ble_eq_true rfl) rfl (by decide) (gO4 hF) dL_set_5 ?_
    refine r_i2l (pc := 8) dL_set_8 ?_
    refine r_last (pc := 9) dL_set_9 (gOout hF) ?_
    refine r_goto (pc := 10) (tgt := 17) dL_set_10 (by decide) ?_
    refine r_iconst (pc := 17) (v := 0) dL_set_17 (by decide) ?_
    exact r_iretW dL_set_18 (gEndW_s he (by rw [hCs]; decide) (by rw [hCs]; decide)) (by rw [gYs_u]; unfold gUo; rw [if_pos hz])
  · obtain ⟨e0, rfl⟩ := gKd1 hk hz
    refine r_aload_n (pc := 0) dL_set_0 rfl rfl ?_
    refine r_iconst (pc := 1) (v := 0) dL_set_1 (by decide) ?_
    refine r_aload_n (pc := 2) dL_set_2 rfl rfl ?_
    refine r_iload_n (pc := 3) dL_set_3 rfl rfl ?_
    refine r_iload_n (pc := 4) dL_set_4 rfl rfl ?_
    refine r_callVC (kd := 4) (pc := 5) (hp := 13) (hp1 := 15) [.int _, .int _] (tX5_setT _ hlt _ _ hF _ _ _ _ h hz) ⟨rfl, rfl⟩ cd_X5_set wL_69 nm_X5_set rfl (by rw [hRm]; decide) rfl (Nat.le_of_ble_eq_true rfl) rfl (by decide) (gO4 hF) dL_set_5 he hCs 1 (by decide) (by rw [e0]; rfl) [] (0, 10, 13, 13) [] rfl (by decide) rfl (by decide) (fun _ hz => nomatch hz) (by rw [e0]; exact clL_13) (by rw [e0]; exact caL_2) (Or.inr ⟨4, dL_set_13, by rw [hnL]; decide, rfl⟩) ?_
    refine r_iconst (pc := 15) (v := 1) dL_set_15 (by decide) ?_
    exact r_iretW dL_set_16 (gEndW_s he (Nat.le_refl _) (Nat.le_refl _)) (by rw [gYs_u]; unfold gUo; rw [if_neg hz])
abbrev rmL_days : Room := { frames := 9, cells := 1, slots := 6, locals := 165 }
theorem cd_L_days : Cond.codeWith yL_days cL_days 4 (some .int) [(0, 9, 12, 13)] ∈ gG := gG_mem (List.mem_of_getElem? (i := 813) (by decide +kernel)) rfl
theorem nm_L_days : gNm yL_days 3 := by unfold gNm; decide +kernel
theorem wL_181 : Cond.methodLink RL 181 yL_days ∈ gG ∧ Cond.static yL_days ∈ gG ∧ Cond.initialized (yL_days).cls ∈ gG := ⟨gG_mem (List.mem_of_getElem? (i := 811) (by decide +kernel)) rfl, gG_mem (List.mem_of_getElem? (i := 812) (by decide +kernel)) rfl, gG_mem (List.mem_of_getElem? (i := 72) (by decide +kernel)) rfl⟩
set_option maxHeartbeats 4000000 in
set_option maxRecDepth 100000 in
theorem tL_days (l : Launch) (hlt : l.stackTraces = false) (G : gX) (u : gU) (hF : gFull u) (p1 : Int32) (m : gM) (o : gM × Nat × Int32) (h : fX5_days p1 m = some o) (k : Int32) (hk : gKd [2] o.2.1 = some k) : gMetW l G u (gUo u o) yL_days (.codeWith yL_days cL_days 4 (some .int) [(0, 9, 12, 13)]) rmL_days [.ref 0, .int p1, .ref 10470] m o.1 (some (.int k)) := by
  refine gMetW_of (own := RL) (k := 1) (by decide) rfl ⟨rfl, rfl⟩ (Nat.le_of_ble_eq_true rfl) [some (.ref 0), some (.int p1), some (.ref 10470), none] rfl (fun Y hG hu hnL hLn hRm hCs he => ?_)
  subst hG hu hLn
  by_cases hz : o.2.1 = 0
  · have hk0 := gKd_ret hk hz
    subst hk0
    refine r_aload_n (pc := 0) dL_days_0 rfl rfl ?_
    refine r_iconst (pc := 1) (v := 0) dL_days_1 (by decide) ?_
    refine r_aload_n (pc := 2) dL_days_2 rfl rfl ?_
    refine r_iload_n (pc := 3) dL_days_3 rfl rfl ?_
    refine r_callV (kd := 4) (pc := 4) [.int _] (tX5_days _ _ _ hF _ _ _ h hz) ⟨rfl, rfl⟩ cd_X5_days wL_72 nm_X5_days rfl (by rw [hRm]; decide) rfl (Nat.le_of_ble_eq_true rfl) rfl (by decide) (gO4 hF) dL_days_4 ?_
    refine r_i2l (pc := 7) dL_days_7 ?_
    refine r_last (pc := 8) dL_days_8 (gOout hF) ?_
    refine r_goto (pc := 9) (tgt := 15) dL_days_9 (by decide) ?_
    refine r_iconst (pc := 15) (v := 0) dL_days_15 (by decide) ?_
    exact r_iretW dL_days_16 (gEndW_s he (by rw [hCs]; decide) (by rw [hCs]; decide)) (by rw [gYs_u]; unfold gUo; rw [if_pos hz])
  · obtain ⟨e0, rfl⟩ := gKd1 hk hz
    refine r_aload_n (pc := 0) dL_days_0 rfl rfl ?_
    refine r_iconst (pc := 1) (v := 0) dL_days_1 (by decide) ?_
    refine r_aload_n (pc := 2) dL_days_2 rfl rfl ?_
    refine r_iload_n (pc := 3) dL_days_3 rfl rfl ?_
    refine r_callVC (kd := 4) (pc := 4) (hp := 12) (hp1 := 13) [.int _] (tX5_daysT _ hlt _ _ hF _ _ _ h hz) ⟨rfl, rfl⟩ cd_X5_days wL_72 nm_X5_days rfl (by rw [hRm]; decide) rfl (Nat.le_of_ble_eq_true rfl) rfl (by decide) (gO4 hF) dL_days_4 he hCs 1 (by decide) (by rw [e0]; rfl) [] (0, 9, 12, 13) [] rfl (by decide) rfl (by decide) (fun _ hz => nomatch hz) (by rw [e0]; exact clL_13) (by rw [e0]; exact caL_2) (Or.inl ⟨3, 3, dL_days_12, rfl, by rw [hnL]; decide, rfl⟩) ?_
    refine r_iconst (pc := 13) (v := 1) dL_days_13 (by decide) ?_
    exact r_iretW dL_days_14 (gEndW_s he (Nat.le_refl _) (Nat.le_refl _)) (by rw [gYs_u]; unfold gUo; rw [if_neg hz])
abbrev rmL_undo : Room := { frames := 8, cells := 1, slots := 6, locals := 124 }
theorem cd_L_undo : Cond.codeWith yL_undo cL_undo 3 (some .int) [(0, 8, 11, 15)] ∈ gG := gG_mem (List.mem_of_getElem? (i := 820) (by decide +kernel)) rfl
theorem nm_L_undo : gNm yL_undo 2 := by unfold gNm; decide +kernel
theorem wL_184 : Cond.methodLink RL 184 yL_undo ∈ gG ∧ Cond.static yL_undo ∈ gG ∧ Cond.initialized (yL_undo).cls ∈ gG := ⟨gG_mem (List.mem_of_getElem? (i := 818) (by decide +kernel)) rfl, gG_mem (List.mem_of_getElem? (i := 819) (by decide +kernel)) rfl, gG_mem (List.mem_of_getElem? (i := 72) (by decide +kernel)) rfl⟩
set_option maxHeartbeats 4000000 in
set_option maxRecDepth 100000 in
theorem tL_undo (l : Launch) (hlt : l.stackTraces = false) (G : gX) (u : gU) (hF : gFull u)  (m : gM) (o : gM × Nat × Int32) (h : fX5_undo  m = some o) (k : Int32) (hk : gKd [3] o.2.1 = some k) : gMetW l G u (gUo u o) yL_undo (.codeWith yL_undo cL_undo 3 (some .int) [(0, 8, 11, 15)]) rmL_undo [.ref 0, .ref 10470] m o.1 (some (.int k)) := by
  refine gMetW_of (own := RL) (k := 1) (by decide) rfl ⟨rfl, rfl⟩ (Nat.le_of_ble_eq_true rfl) [some (.ref 0), some (.ref 10470), none] rfl (fun Y hG hu hnL hLn hRm hCs he => ?_)
  subst hG hu hLn
  by_cases hz : o.2.1 = 0
  · have hk0 := gKd_ret hk hz
    subst hk0
    refine r_aload_n (pc := 0) dL_undo_0 rfl rfl ?_
    refine r_iconst (pc := 1) (v := 0) dL_undo_1 (by decide) ?_
    refine r_aload_n (pc := 2) dL_undo_2 rfl rfl ?_
    refine r_callV (kd := 4) (pc := 3) [] (tX5_undo _ _ _ hF  _ _ h hz) ⟨rfl, rfl⟩ cd_X5_undo wL_75 nm_X5_undo rfl (by rw [hRm]; decide) rfl (Nat.le_of_ble_eq_true rfl) rfl (by decide) (gO4 hF) dL_undo_3 ?_
    refine r_i2l (pc := 6) dL_undo_6 ?_
    refine r_last (pc := 7) dL_undo_7 (gOout hF) ?_
    refine r_goto (pc := 8) (tgt := 14) dL_undo_8 (by decide) ?_
    refine r_iconst (pc := 14) (v := 0) dL_undo_14 (by decide) ?_
    exact r_iretW dL_undo_15 (gEndW_s he (by rw [hCs]; decide) (by rw [hCs]; decide)) (by rw [gYs_u]; unfold gUo; rw [if_pos hz])
  · obtain ⟨e0, rfl⟩ := gKd1 hk hz
    refine r_aload_n (pc := 0) dL_undo_0 rfl rfl ?_
    refine r_iconst (pc := 1) (v := 0) dL_undo_1 (by decide) ?_
    refine r_aload_n (pc := 2) dL_undo_2 rfl rfl ?_
    refine r_callVC (kd := 4) (pc := 3) (hp := 11) (hp1 := 12) [] (tX5_undoT _ hlt _ _ hF  _ _ h hz) ⟨rfl, rfl⟩ cd_X5_undo wL_75 nm_X5_undo rfl (by rw [hRm]; decide) rfl (Nat.le_of_ble_eq_true rfl) rfl (by decide) (gO4 hF) dL_undo_3 he hCs 2 (by decide) (by rw [e0]; rfl) [] (0, 8, 11, 15) [] rfl (by decide) rfl (by decide) (fun _ hz => nomatch hz) (by rw [e0]; exact clL_15) (by rw [e0]; exact caL_3) (Or.inl ⟨2, 2, dL_undo_11, rfl, by rw [hnL]; decide, rfl⟩) ?_
    refine r_iconst (pc := 12) (v := 1) dL_undo_12 (by decide) ?_
    exact r_iretW dL_undo_13 (gEndW_s he (Nat.le_refl _) (Nat.le_refl _)) (by rw [gYs_u]; unfold gUo; rw [if_neg hz])
abbrev rmL_why : Room := { frames := 8, cells := 1, slots := 6, locals := 134 }
theorem cd_L_why : Cond.codeWith yL_why cL_why 4 (some .int) [(0, 9, 12, 28)] ∈ gG := gG_mem (List.mem_of_getElem? (i := 831) (by decide +kernel)) rfl
theorem nm_L_why : gNm yL_why 3 := by unfold gNm; decide +kernel
theorem wL_187 : Cond.methodLink RL 187 yL_why ∈ gG ∧ Cond.static yL_why ∈ gG ∧ Cond.initialized (yL_why).cls ∈ gG := ⟨gG_mem (List.mem_of_getElem? (i := 829) (by decide +kernel)) rfl, gG_mem (List.mem_of_getElem? (i := 830) (by decide +kernel)) rfl, gG_mem (List.mem_of_getElem? (i := 72) (by decide +kernel)) rfl⟩
set_option maxHeartbeats 4000000 in
set_option maxRecDepth 100000 in
theorem tL_why (l : Launch) (hlt : l.stackTraces = false) (G : gX) (u : gU) (hF : gFull u) (p1 : Int32) (m : gM) (o : gM × Nat × Int32) (h : fX5_why p1 m = some o) (k : Int32) (hk : gKd [1] o.2.1 = some k) : gMetW l G u (gUo u o) yL_why (.codeWith yL_why cL_why 4 (some .int) [(0, 9, 12, 28)]) rmL_why [.ref 0, .int p1, .ref 10470] m o.1 (some (.int k)) := by
  refine gMetW_of (own := RL) (k := 1) (by decide) rfl ⟨rfl, rfl⟩ (Nat.le_of_ble_eq_true rfl) [some (.ref 0), some (.int p1), some (.ref 10470), none] rfl (fun Y hG hu hnL hLn hRm hCs he => ?_)
  subst hG hu hLn
  by_cases hz : o.2.1 = 0
  · have hk0 := gKd_ret hk hz
    subst hk0
    refine r_aload_n (pc := 0) dL_why_0 rfl rfl ?_
    refine r_iconst (pc := 1) (v := 0) dL_why_1 (by decide) ?_
    refine r_aload_n (pc := 2) dL_why_2 rfl rfl ?_
    refine r_iload_n (pc := 3) dL_why_3 rfl rfl ?_
    refine r_callV (kd := 4) (pc := 4) [.int _] (tX5_why _ _ _ hF _ _ _ h hz) ⟨rfl, rfl⟩ cd_X5_why wL_78 nm_X5_why rfl (by rw [hRm]; decide) rfl (Nat.le_of_ble_eq_true rfl) rfl (by decide) (gO4 hF) dL_why_4 ?_
    refine r_i2l (pc := 7) dL_why_7 ?_
    refine r_last (pc := 8) dL_why_8 (gOout hF) ?_
    refine r_goto (pc := 9) (tgt := 15) dL_why_9 (by decide) ?_
    refine r_iconst (pc := 15) (v := 0) dL_why_15 (by decide) ?_
    exact r_iretW dL_why_16 (gEndW_s he (by rw [hCs]; decide) (by rw [hCs]; decide)) (by rw [gYs_u]; unfold gUo; rw [if_pos hz])
  · obtain ⟨e0, rfl⟩ := gKd1 hk hz
    refine r_aload_n (pc := 0) dL_why_0 rfl rfl ?_
    refine r_iconst (pc := 1) (v := 0) dL_why_1 (by decide) ?_
    refine r_aload_n (pc := 2) dL_why_2 rfl rfl ?_
    refine r_iload_n (pc := 3) dL_why_3 rfl rfl ?_
    refine r_callVC (kd := 4) (pc := 4) (hp := 12) (hp1 := 13) [.int _] (tX5_whyT _ hlt _ _ hF _ _ _ h hz) ⟨rfl, rfl⟩ cd_X5_why wL_78 nm_X5_why rfl (by rw [hRm]; decide) rfl (Nat.le_of_ble_eq_true rfl) rfl (by decide) (gO4 hF) dL_why_4 he hCs 0 (by decide) (by rw [e0]; rfl) [] (0, 9, 12, 28) [] rfl (by decide) rfl (by decide) (fun _ hz => nomatch hz) (by rw [e0]; exact clL_28) (by rw [e0]; exact caL_1) (Or.inl ⟨3, 3, dL_why_12, rfl, by rw [hnL]; decide, rfl⟩) ?_
    refine r_iconst (pc := 13) (v := 1) dL_why_13 (by decide) ?_
    exact r_iretW dL_why_14 (gEndW_s he (Nat.le_refl _) (Nat.le_refl _)) (by rw [gYs_u]; unfold gUo; rw [if_neg hz])
abbrev rmL_creditIn : Room := { frames := 8, cells := 1, slots := 6, locals := 124 }
theorem cd_L_creditIn : Cond.codeWith yL_creditIn cL_creditIn 5 (some .int) [(0, 10, 13, 28), (0, 10, 17, 13)] ∈ gG := gG_mem (List.mem_of_getElem? (i := 846) (by decide +kernel)) rfl
theorem nm_L_creditIn : gNm yL_creditIn 4 := by unfold gNm; decide +kernel
theorem wL_190 : Cond.methodLink RL 190 yL_creditIn ∈ gG ∧ Cond.static yL_creditIn ∈ gG ∧ Cond.initialized (yL_creditIn).cls ∈ gG := ⟨gG_mem (List.mem_of_getElem? (i := 844) (by decide +kernel)) rfl, gG_mem (List.mem_of_getElem? (i := 845) (by decide +kernel)) rfl, gG_mem (List.mem_of_getElem? (i := 72) (by decide +kernel)) rfl⟩
set_option maxHeartbeats 4000000 in
set_option maxRecDepth 100000 in
theorem tL_creditIn (l : Launch) (hlt : l.stackTraces = false) (G : gX) (u : gU) (hF : gFull u) (p1 : Int32) (p2 : Int32) (m : gM) (o : gM × Nat × Int32) (h : fX5_creditIn p1 p2 m = some o) (k : Int32) (hk : gKd [1, 2] o.2.1 = some k) : gMetW l G u (gUo u o) yL_creditIn (.codeWith yL_creditIn cL_creditIn 5 (some .int) [(0, 10, 13, 28), (0, 10, 17, 13)]) rmL_creditIn [.ref 0, .int p1, .int p2, .ref 10470] m o.1 (some (.int k)) := by
  refine gMetW_of (own := RL) (k := 1) (by decide) rfl ⟨rfl, rfl⟩ (Nat.le_of_ble_eq_true rfl) [some (.ref 0), some (.int p1), some (.int p2), some (.ref 10470), none] rfl (fun Y hG hu hnL hLn hRm hCs he => ?_)
  subst hG hu hLn
  by_cases hz : o.2.1 = 0
  · have hk0 := gKd_ret hk hz
    subst hk0
    refine r_aload_n (pc := 0) dL_creditIn_0 rfl rfl ?_
    refine r_iconst (pc := 1) (v := 0) dL_creditIn_1 (by decide) ?_
    refine r_aload_n (pc := 2) dL_creditIn_2 rfl rfl ?_
    refine r_iload_n (pc := 3) dL_creditIn_3 rfl rfl ?_
    refine r_iload_n (pc := 4) dL_creditIn_4 rfl rfl ?_
    refine r_callV (kd := 4) (pc := 5) [.int _, .int _] (tX5_creditIn _ _ _ hF _ _ _ _ h hz) ⟨rfl, rfl⟩ cd_X5_creditIn wL_81 nm_X5_creditIn rfl (by rw [hRm]; decide) rfl (Nat.le_of_ble_eq_true rfl) rfl (by decide) (gO4 hF) dL_creditIn_5 ?_
    refine r_i2l (pc := 8) dL_creditIn_8 ?_
    refine r_last (pc := 9) dL_creditIn_9 (gOout hF) ?_
    refine r_goto (pc := 10) (tgt := 21) dL_creditIn_10 (by decide) ?_
    refine r_iconst (pc := 21) (v := 0) dL_creditIn_21 (by decide) ?_
    exact r_iretW dL_creditIn_22 (gEndW_s he (by rw [hCs]; decide) (by rw [hCs]; decide)) (by rw [gYs_u]; unfold gUo; rw [if_pos hz])
  · rcases gKd2 hk hz with ⟨e0, rfl⟩ | ⟨e1, rfl⟩
    · refine r_aload_n (pc := 0) dL_creditIn_0 rfl rfl ?_
      refine r_iconst (pc := 1) (v := 0) dL_creditIn_1 (by decide) ?_
      refine r_aload_n (pc := 2) dL_creditIn_2 rfl rfl ?_
      refine r_iload_n (pc := 3) dL_creditIn_3 rfl rfl ?_
      refine r_iload_n (pc := 4) dL_creditIn_4 rfl rfl ?_
      refine r_callVC (kd := 4) (pc := 5) (hp := 13) (hp1 := 15) [.int _, .int _] (tX5_creditInT _ hlt _ _ hF _ _ _ _ h hz) ⟨rfl, rfl⟩ cd_X5_creditIn wL_81 nm_X5_creditIn rfl (by rw [hRm]; decide) rfl (Nat.le_of_ble_eq_true rfl) rfl (by decide) (gO4 hF) dL_creditIn_5 he hCs 0 (by decide) (by rw [e0]; rfl) [] (0, 10, 13, 28) [(0, 10, 17, 13)] rfl (by decide) rfl (by decide) (fun _ hz => nomatch hz) (by rw [e0]; exact clL_28) (by rw [e0]; exact caL_1) (Or.inr ⟨4, dL_creditIn_13, by rw [hnL]; decide, rfl⟩) ?_
      refine r_iconst (pc := 15) (v := 1) dL_creditIn_15 (by decide) ?_
      exact r_iretW dL_creditIn_16 (gEndW_s he (Nat.le_refl _) (Nat.le_refl _)) (by rw [gYs_u]; unfold gUo; rw [if_neg hz])
    · refine r_aload_n (pc := 0) dL_creditIn_0 rfl rfl ?_
      refine r_iconst (pc := 1) (v := 0) dL_creditIn_1 (by decide) ?_
      refine r_aload_n (pc := 2) dL_creditIn_2 rfl rfl ?_
      refine r_iload_n (pc := 3) dL_creditIn_3 rfl rfl ?_
      refine r_iload_n (pc := 4) dL_creditIn_4 rfl rfl ?_
      refine r_callVC (kd := 4) (pc := 5) (hp := 17) (hp1 := 19) [.int _, .int _] (tX5_creditInT _ hlt _ _ hF _ _ _ _ h hz) ⟨rfl, rfl⟩ cd_X5_creditIn wL_81 nm_X5_creditIn rfl (by rw [hRm]; decide) rfl (Nat.le_of_ble_eq_true rfl) rfl (by decide) (gO4 hF) dL_creditIn_5 he hCs 1 (by decide) (by rw [e1]; rfl) [(0, 10, 13, 28)] (0, 10, 17, 13) [] rfl (by decide) rfl (by decide) (fun z hz => by rcases List.mem_singleton.mp hz with rfl; exact ⟨by decide, 0, by decide, by decide, clL_28⟩) (by rw [e1]; exact clL_13) (by rw [e1]; exact caL_2) (Or.inr ⟨4, dL_creditIn_17, by rw [hnL]; decide, rfl⟩) ?_
      refine r_iconst (pc := 19) (v := 2) dL_creditIn_19 (by decide) ?_
      exact r_iretW dL_creditIn_20 (gEndW_s he (Nat.le_refl _) (Nat.le_refl _)) (by rw [gYs_u]; unfold gUo; rw [if_neg hz])
abbrev rmL_clearIn : Room := { frames := 8, cells := 1, slots := 6, locals := 124 }
theorem cd_L_clearIn : Cond.codeWith yL_clearIn cL_clearIn 4 (some .int) [(0, 9, 12, 28)] ∈ gG := gG_mem (List.mem_of_getElem? (i := 855) (by decide +kernel)) rfl
theorem nm_L_clearIn : gNm yL_clearIn 3 := by unfold gNm; decide +kernel
theorem wL_193 : Cond.methodLink RL 193 yL_clearIn ∈ gG ∧ Cond.static yL_clearIn ∈ gG ∧ Cond.initialized (yL_clearIn).cls ∈ gG := ⟨gG_mem (List.mem_of_getElem? (i := 853) (by decide +kernel)) rfl, gG_mem (List.mem_of_getElem? (i := 854) (by decide +kernel)) rfl, gG_mem (List.mem_of_getElem? (i := 72) (by decide +kernel)) rfl⟩
set_option maxHeartbeats 4000000 in
set_option maxRecDepth 100000 in
theorem tL_clearIn (l : Launch) (hlt : l.stackTraces = false) (G : gX) (u : gU) (hF : gFull u) (p1 : Int32) (m : gM) (o : gM × Nat × Int32) (h : fX5_clearIn p1 m = some o) (k : Int32) (hk : gKd [1] o.2.1 = some k) : gMetW l G u (gUo u o) yL_clearIn (.codeWith yL_clearIn cL_clearIn 4 (some .int) [(0, 9, 12, 28)]) rmL_clearIn [.ref 0, .int p1, .ref 10470] m o.1 (some (.int k)) := by
  refine gMetW_of (own := RL) (k := 1) (by decide) rfl ⟨rfl, rfl⟩ (Nat.le_of_ble_eq_true rfl) [some (.ref 0), some (.int p1), some (.ref 10470), none] rfl (fun Y hG hu hnL hLn hRm hCs he => ?_)
  subst hG hu hLn
  by_cases hz : o.2.1 = 0
  · have hk0 := gKd_ret hk hz
    subst hk0
    refine r_aload_n (pc := 0) dL_clearIn_0 rfl rfl ?_
    refine r_iconst (pc := 1) (v := 0) dL_clearIn_1 (by decide) ?_
    refine r_aload_n (pc := 2) dL_clearIn_2 rfl rfl ?_
    refine r_iload_n (pc := 3) dL_clearIn_3 rfl rfl ?_
    refine r_callV (kd := 4) (pc := 4) [.int _] (tX5_clearIn _ _ _ hF _ _ _ h hz) ⟨rfl, rfl⟩ cd_X5_clearIn wL_84 nm_X5_clearIn rfl (by rw [hRm]; decide) rfl (Nat.le_of_ble_eq_true rfl) rfl (by decide) (gO4 hF) dL_clearIn_4 ?_
    refine r_i2l (pc := 7) dL_clearIn_7 ?_
    refine r_last (pc := 8) dL_clearIn_8 (gOout hF) ?_
    refine r_goto (pc := 9) (tgt := 15) dL_clearIn_9 (by decide) ?_
    refine r_iconst (pc := 15) (v := 0) dL_clearIn_15 (by decide) ?_
    exact r_iretW dL_clearIn_16 (gEndW_s he (by rw [hCs]; decide) (by rw [hCs]; decide)) (by rw [gYs_u]; unfold gUo; rw [if_pos hz])
  · obtain ⟨e0, rfl⟩ := gKd1 hk hz
    refine r_aload_n (pc := 0) dL_clearIn_0 rfl rfl ?_
    refine r_iconst (pc := 1) (v := 0) dL_clearIn_1 (by decide) ?_
    refine r_aload_n (pc := 2) dL_clearIn_2 rfl rfl ?_
    refine r_iload_n (pc := 3) dL_clearIn_3 rfl rfl ?_
    refine r_callVC (kd := 4) (pc := 4) (hp := 12) (hp1 := 13) [.int _] (tX5_clearInT _ hlt _ _ hF _ _ _ h hz) ⟨rfl, rfl⟩ cd_X5_clearIn wL_84 nm_X5_clearIn rfl (by rw [hRm]; decide) rfl (Nat.le_of_ble_eq_true rfl) rfl (by decide) (gO4 hF) dL_clearIn_4 he hCs 0 (by decide) (by rw [e0]; rfl) [] (0, 9, 12, 28) [] rfl (by decide) rfl (by decide) (fun _ hz => nomatch hz) (by rw [e0]; exact clL_28) (by rw [e0]; exact caL_1) (Or.inl ⟨3, 3, dL_clearIn_12, rfl, by rw [hnL]; decide, rfl⟩) ?_
    refine r_iconst (pc := 13) (v := 1) dL_clearIn_13 (by decide) ?_
    exact r_iretW dL_clearIn_14 (gEndW_s he (Nat.le_refl _) (Nat.le_refl _)) (by rw [gYs_u]; unfold gUo; rw [if_neg hz])
abbrev rmL_leastOven : Room := { frames := 8, cells := 1, slots := 6, locals := 125 }
theorem cd_L_leastOven : Cond.codeWith yL_leastOven cL_leastOven 4 (some .int) [(0, 9, 12, 13)] ∈ gG := gG_mem (List.mem_of_getElem? (i := 862) (by decide +kernel)) rfl
theorem nm_L_leastOven : gNm yL_leastOven 3 := by unfold gNm; decide +kernel
theorem wL_196 : Cond.methodLink RL 196 yL_leastOven ∈ gG ∧ Cond.static yL_leastOven ∈ gG ∧ Cond.initialized (yL_leastOven).cls ∈ gG := ⟨gG_mem (List.mem_of_getElem? (i := 860) (by decide +kernel)) rfl, gG_mem (List.mem_of_getElem? (i := 861) (by decide +kernel)) rfl, gG_mem (List.mem_of_getElem? (i := 72) (by decide +kernel)) rfl⟩
set_option maxHeartbeats 4000000 in
set_option maxRecDepth 100000 in
theorem tL_leastOven (l : Launch) (hlt : l.stackTraces = false) (G : gX) (u : gU) (hF : gFull u) (p1 : Int32) (m : gM) (o : gM × Nat × Int32) (h : fX5_leastOven p1 m = some o) (k : Int32) (hk : gKd [2] o.2.1 = some k) : gMetW l G u (gUo u o) yL_leastOven (.codeWith yL_leastOven cL_leastOven 4 (some .int) [(0, 9, 12, 13)]) rmL_leastOven [.ref 0, .int p1, .ref 10470] m o.1 (some (.int k)) := by
  refine gMetW_of (own := RL) (k := 1) (by decide) rfl ⟨rfl, rfl⟩ (Nat.le_of_ble_eq_true rfl) [some (.ref 0), some (.int p1), some (.ref 10470), none] rfl (fun Y hG hu hnL hLn hRm hCs he => ?_)
  subst hG hu hLn
  by_cases hz : o.2.1 = 0
  · have hk0 := gKd_ret hk hz
    subst hk0
    refine r_aload_n (pc := 0) dL_leastOven_0 rfl rfl ?_
    refine r_iconst (pc := 1) (v := 0) dL_leastOven_1 (by decide) ?_
    refine r_aload_n (pc := 2) dL_leastOven_2 rfl rfl ?_
    refine r_iload_n (pc := 3) dL_leastOven_3 rfl rfl ?_
    refine r_callV (kd := 4) (pc := 4) [.int _] (tX5_leastOven _ _ _ hF _ _ _ h hz) ⟨rfl, rfl⟩ cd_X5_leastOven wL_87 nm_X5_leastOven rfl (by rw [hRm]; decide) rfl (Nat.le_of_ble_eq_true rfl) rfl (by decide) (gO4 hF) dL_leastOven_4 ?_
    refine r_i2l (pc := 7) dL_leastOven_7 ?_
    refine r_last (pc := 8) dL_leastOven_8 (gOout hF) ?_
    refine r_goto (pc := 9) (tgt := 15) dL_leastOven_9 (by decide) ?_
    refine r_iconst (pc := 15) (v := 0) dL_leastOven_15 (by decide) ?_
    exact r_iretW dL_leastOven_16 (gEndW_s he (by rw [hCs]; decide) (by rw [hCs]; decide)) (by rw [gYs_u]; unfold gUo; rw [if_pos hz])
  · obtain ⟨e0, rfl⟩ := gKd1 hk hz
    refine r_aload_n (pc := 0) dL_leastOven_0 rfl rfl ?_
    refine r_iconst (pc := 1) (v := 0) dL_leastOven_1 (by decide) ?_
    refine r_aload_n (pc := 2) dL_leastOven_2 rfl rfl ?_
    refine r_iload_n (pc := 3) dL_leastOven_3 rfl rfl ?_
    refine r_callVC (kd := 4) (pc := 4) (hp := 12) (hp1 := 13) [.int _] (tX5_leastOvenT _ hlt _ _ hF _ _ _ h hz) ⟨rfl, rfl⟩ cd_X5_leastOven wL_87 nm_X5_leastOven rfl (by rw [hRm]; decide) rfl (Nat.le_of_ble_eq_true rfl) rfl (by decide) (gO4 hF) dL_leastOven_4 he hCs 1 (by decide) (by rw [e0]; rfl) [] (0, 9, 12, 13) [] rfl (by decide) rfl (by decide) (fun _ hz => nomatch hz) (by rw [e0]; exact clL_13) (by rw [e0]; exact caL_2) (Or.inl ⟨3, 3, dL_leastOven_12, rfl, by rw [hnL]; decide, rfl⟩) ?_
    refine r_iconst (pc := 13) (v := 1) dL_leastOven_13 (by decide) ?_
    exact r_iretW dL_leastOven_14 (gEndW_s he (Nat.le_refl _) (Nat.le_refl _)) (by rw [gYs_u]; unfold gUo; rw [if_neg hz])
abbrev rmL_bestRound : Room := { frames := 8, cells := 1, slots := 6, locals := 127 }
theorem cd_L_bestRound : Cond.codeWith yL_bestRound cL_bestRound 4 (some .int) [(0, 9, 12, 13)] ∈ gG := gG_mem (List.mem_of_getElem? (i := 874) (by decide +kernel)) rfl
theorem nm_L_bestRound : gNm yL_bestRound 3 := by unfold gNm; decide +kernel
theorem wL_199 : Cond.methodLink RL 199 yL_bestRound ∈ gG ∧ Cond.static yL_bestRound ∈ gG ∧ Cond.initialized (yL_bestRound).cls ∈ gG := ⟨gG_mem (List.mem_of_getElem? (i := 872) (by decide +kernel)) rfl, gG_mem (List.mem_of_getElem? (i := 873) (by decide +kernel)) rfl, gG_mem (List.mem_of_getElem? (i := 72) (by decide +kernel)) rfl⟩
set_option maxHeartbeats 4000000 in
set_option maxRecDepth 100000 in
theorem tL_bestRound (l : Launch) (hlt : l.stackTraces = false) (G : gX) (u : gU) (hF : gFull u) (p1 : Int32) (m : gM) (o : gM × Nat × Int32) (h : fX5_bestRound p1 m = some o) (k : Int32) (hk : gKd [2] o.2.1 = some k) : gMetW l G u (gUo u o) yL_bestRound (.codeWith yL_bestRound cL_bestRound 4 (some .int) [(0, 9, 12, 13)]) rmL_bestRound [.ref 0, .int p1, .ref 10470] m o.1 (some (.int k)) := by
  refine gMetW_of (own := RL) (k := 1) (by decide) rfl ⟨rfl, rfl⟩ (Nat.le_of_ble_eq_true rfl) [some (.ref 0), some (.int p1), some (.ref 10470), none] rfl (fun Y hG hu hnL hLn hRm hCs he => ?_)
  subst hG hu hLn
  by_cases hz : o.2.1 = 0
  · have hk0 := gKd_ret hk hz
    subst hk0
    refine r_aload_n (pc := 0) dL_bestRound_0 rfl rfl ?_
    refine r_iconst (pc := 1) (v := 0) dL_bestRound_1 (by decide) ?_
    refine r_aload_n (pc := 2) dL_bestRound_2 rfl rfl ?_
    refine r_iload_n (pc := 3) dL_bestRound_3 rfl rfl ?_
    refine r_callV (kd := 4) (pc := 4) [.int _] (tX5_bestRound _ _ _ hF _ _ _ h hz) ⟨rfl, rfl⟩ cd_X5_bestRound wL_90 nm_X5_bestRound rfl (by rw [hRm]; decide) rfl (Nat.le_of_ble_eq_true rfl) rfl (by decide) (gO4 hF) dL_bestRound_4 ?_
    refine r_i2l (pc := 7) dL_bestRound_7 ?_
    refine r_last (pc := 8) dL_bestRound_8 (gOout hF) ?_
    refine r_goto (pc := 9) (tgt := 15) dL_bestRound_9 (by decide) ?_
    refine r_iconst (pc := 15) (v := 0) dL_bestRound_15 (by decide) ?_
    exact r_iretW dL_bestRound_16 (gEndW_s he (by rw [hCs]; decide) (by rw [hCs]; decide)) (by rw [gYs_u]; unfold gUo; rw [if_pos hz])
  · obtain ⟨e0, rfl⟩ := gKd1 hk hz
    refine r_aload_n (pc := 0) dL_bestRound_0 rfl rfl ?_
    refine r_iconst (pc := 1) (v := 0) dL_bestRound_1 (by decide) ?_
    refine r_aload_n (pc := 2) dL_bestRound_2 rfl rfl ?_
    refine r_iload_n (pc := 3) dL_bestRound_3 rfl rfl ?_
    refine r_callVC (kd := 4) (pc := 4) (hp := 12) (hp1 := 13) [.int _] (tX5_bestRoundT _ hlt _ _ hF _ _ _ h hz) ⟨rfl, rfl⟩ cd_X5_bestRound wL_90 nm_X5_bestRound rfl (by rw [hRm]; decide) rfl (Nat.le_of_ble_eq_true rfl) rfl (by decide) (gO4 hF) dL_bestRound_4 he hCs 1 (by decide) (by rw [e0]; rfl) [] (0, 9, 12, 13) [] rfl (by decide) rfl (by decide) (fun _ hz => nomatch hz) (by rw [e0]; exact clL_13) (by rw [e0]; exact caL_2) (Or.inl ⟨3, 3, dL_bestRound_12, rfl, by rw [hnL]; decide, rfl⟩) ?_
    refine r_iconst (pc := 13) (v := 1) dL_bestRound_13 (by decide) ?_
    exact r_iretW dL_bestRound_14 (gEndW_s he (Nat.le_refl _) (Nat.le_refl _)) (by rw [gYs_u]; unfold gUo; rw [if_neg hz])
abbrev rmL_runScript : Room := { frames := 8, cells := 1, slots := 6, locals := 171 }
theorem cd_L_runScript : Cond.codeWith yL_runScript cL_runScript 6 (some .int) [(0, 11, 14, 13)] ∈ gG := gG_mem (List.mem_of_getElem? (i := 893) (by decide +kernel)) rfl
theorem nm_L_runScript : gNm yL_runScript 4 := by unfold gNm; decide +kernel
theorem wL_204 : Cond.methodLink RL 204 yL_runScript ∈ gG ∧ Cond.static yL_runScript ∈ gG ∧ Cond.initialized (yL_runScript).cls ∈ gG := ⟨gG_mem (List.mem_of_getElem? (i := 891) (by decide +kernel)) rfl, gG_mem (List.mem_of_getElem? (i := 892) (by decide +kernel)) rfl, gG_mem (List.mem_of_getElem? (i := 72) (by decide +kernel)) rfl⟩
set_option maxHeartbeats 4000000 in
set_option maxRecDepth 100000 in
theorem tL_runScript (l : Launch) (hlt : l.stackTraces = false) (G : gX) (u : gU) (hF : gFull u) (p1 : Int32) (p2 : Int64) (m : gM) (o : gM × Nat × Int32) (h : fX5_runScript p1 p2 m = some o) (k : Int32) (hk : gKd [2] o.2.1 = some k) : gMetW l G u (gUo u o) yL_runScript (.codeWith yL_runScript cL_runScript 6 (some .int) [(0, 11, 14, 13)]) rmL_runScript [.ref 0, .int p1, .long p2, .ref 10470] m o.1 (some (.int k)) := by
  refine gMetW_of (own := RL) (k := 1) (by decide) rfl ⟨rfl, rfl⟩ (Nat.le_of_ble_eq_true rfl) [some (.ref 0), some (.int p1), some (.long p2), none, some (.ref 10470), none] rfl (fun Y hG hu hnL hLn hRm hCs he => ?_)
  subst hG hu hLn
  by_cases hz : o.2.1 = 0
  · have hk0 := gKd_ret hk hz
    subst hk0
    refine r_aload (pc := 0) dL_runScript_0 rfl ?_
    refine r_iconst (pc := 2) (v := 0) dL_runScript_2 (by decide) ?_
    refine r_aload_n (pc := 3) dL_runScript_3 rfl rfl ?_
    refine r_iload_n (pc := 4) dL_runScript_4 rfl rfl ?_
    refine r_lload_n (pc := 5) dL_runScript_5 rfl rfl ?_
    refine r_callV (kd := 4) (pc := 6) [.int _, .long _] (tX5_runScript _ _ _ hF _ _ _ _ h hz) ⟨rfl, rfl⟩ cd_X5_runScript wL_93 nm_X5_runScript rfl (by rw [hRm]; decide) rfl (Nat.le_of_ble_eq_true rfl) rfl (by decide) (gO4 hF) dL_runScript_6 ?_
    refine r_i2l (pc := 9) dL_runScript_9 ?_
    refine r_last (pc := 10) dL_runScript_10 (gOout hF) ?_
    refine r_goto (pc := 11) (tgt := 18) dL_runScript_11 (by decide) ?_
    refine r_iconst (pc := 18) (v := 0) dL_runScript_18 (by decide) ?_
    exact r_iretW dL_runScript_19 (gEndW_s he (by rw [hCs]; decide) (by rw [hCs]; decide)) (by rw [gYs_u]; unfold gUo; rw [if_pos hz])
  · obtain ⟨e0, rfl⟩ := gKd1 hk hz
    refine r_aload (pc := 0) dL_runScript_0 rfl ?_
    refine r_iconst (pc := 2) (v := 0) dL_runScript_2 (by decide) ?_
    refine r_aload_n (pc := 3) dL_runScript_3 rfl rfl ?_
    refine r_iload_n (pc := 4) dL_runScript_4 rfl rfl ?_
    refine r_lload_n (pc := 5) dL_runScript_5 rfl rfl ?_
    refine r_callVC (kd := 4) (pc := 6) (hp := 14) (hp1 := 16) [.int _, .long _] (tX5_runScriptT _ hlt _ _ hF _ _ _ _ h hz) ⟨rfl, rfl⟩ cd_X5_runScript wL_93 nm_X5_runScript rfl (by rw [hRm]; decide) rfl (Nat.le_of_ble_eq_true rfl) rfl (by decide) (gO4 hF) dL_runScript_6 he hCs 1 (by decide) (by rw [e0]; rfl) [] (0, 11, 14, 13) [] rfl (by decide) rfl (by decide) (fun _ hz => nomatch hz) (by rw [e0]; exact clL_13) (by rw [e0]; exact caL_2) (Or.inr ⟨5, dL_runScript_14, by rw [hnL]; decide, rfl⟩) ?_
    refine r_iconst (pc := 16) (v := 1) dL_runScript_16 (by decide) ?_
    exact r_iretW dL_runScript_17 (gEndW_s he (Nat.le_refl _) (Nat.le_refl _)) (by rw [gYs_u]; unfold gUo; rw [if_neg hz])
abbrev rmL_simulate : Room := { frames := 8, cells := 1, slots := 6, locals := 168 }
theorem cd_L_simulate : Cond.codeWith yL_simulate cL_simulate 6 (some .int) [(0, 11, 14, 13)] ∈ gG := gG_mem (List.mem_of_getElem? (i := 913) (by decide +kernel)) rfl
theorem nm_L_simulate : gNm yL_simulate 4 := by unfold gNm; decide +kernel
theorem wL_208 : Cond.methodLink RL 208 yL_simulate ∈ gG ∧ Cond.static yL_simulate ∈ gG ∧ Cond.initialized (yL_simulate).cls ∈ gG := ⟨gG_mem (List.mem_of_getElem? (i := 911) (by decide +kernel)) rfl, gG_mem (List.mem_of_getElem? (i := 912) (by decide +kernel)) rfl, gG_mem (List.mem_of_getElem? (i := 72) (by decide +kernel)) rfl⟩
set_option maxHeartbeats 4000000 in
set_option maxRecDepth 100000 in
theorem tL_simulate (l : Launch) (hlt : l.stackTraces = false) (G : gX) (u : gU) (hF : gFull u) (p1 : Int64) (p2 : Int32) (m : gM) (o : gM × Nat × Int32) (h : fX5_simulate p1 p2 m = some o) (k : Int32) (hk : gKd [2] o.2.1 = some k) : gMetW l G u (gUo u o) yL_simulate (.codeWith yL_simulate cL_simulate 6 (some .int) [(0, 11, 14, 13)]) rmL_simulate [.ref 0, .long p1, .int p2, .ref 10470] m o.1 (some (.int k)) := by
  refine gMetW_of (own := RL) (k := 1) (by decide) rfl ⟨rfl, rfl⟩ (Nat.le_of_ble_eq_true rfl) [some (.ref 0), some (.long p1), none, some (.int p2), some (.ref 10470), none] rfl (fun Y hG hu hnL hLn hRm hCs he => ?_)
  subst hG hu hLn
  by_cases hz : o.2.1 = 0
  · have hk0 := gKd_ret hk hz
    subst hk0
    refine r_aload (pc := 0) dL_simulate_0 rfl ?_
    refine r_iconst (pc := 2) (v := 0) dL_simulate_2 (by decide) ?_
    refine r_aload_n (pc := 3) dL_simulate_3 rfl rfl ?_
    refine r_lload_n (pc := 4) dL_simulate_4 rfl rfl ?_
    refine r_iload_n (pc := 5) dL_simulate_5 rfl rfl ?_
    refine r_callV (kd := 4) (pc := 6) [.long _, .int _] (tX5_simulate _ _ _ hF _ _ _ _ h hz) ⟨rfl, rfl⟩ cd_X5_simulate wL_97 nm_X5_simulate rfl (by rw [hRm]; decide) rfl (Nat.le_of_ble_eq_true rfl) rfl (by decide) (gO4 hF) dL_simulate_6 ?_
    refine r_i2l (pc := 9) dL_simulate_9 ?_
    refine r_last (pc := 10) dL_simulate_10 (gOout hF) ?_
    refine r_goto (pc := 11) (tgt := 18) dL_simulate_11 (by decide) ?_
    refine r_iconst (pc := 18) (v := 0) dL_simulate_18 (by decide) ?_
    exact r_iretW dL_simulate_19 (gEndW_s he (by rw [hCs]; decide) (by rw [hCs]; decide)) (by rw [gYs_u]; unfold gUo; rw [if_pos hz])
  · obtain ⟨e0, rfl⟩ := gKd1 hk hz
    refine r_aload (pc := 0) dL_simulate_0 rfl ?_
    refine r_iconst (pc := 2) (v := 0) dL_simulate_2 (by decide) ?_
    refine r_aload_n (pc := 3) dL_simulate_3 rfl rfl ?_
    refine r_lload_n (pc := 4) dL_simulate_4 rfl rfl ?_
    refine r_iload_n (pc := 5) dL_simulate_5 rfl rfl ?_
    refine r_callVC (kd := 4) (pc := 6) (hp := 14) (hp1 := 16) [.long _, .int _] (tX5_simulateT _ hlt _ _ hF _ _ _ _ h hz) ⟨rfl, rfl⟩ cd_X5_simulate wL_97 nm_X5_simulate rfl (by rw [hRm]; decide) rfl (Nat.le_of_ble_eq_true rfl) rfl (by decide) (gO4 hF) dL_simulate_6 he hCs 1 (by decide) (by rw [e0]; rfl) [] (0, 11, 14, 13) [] rfl (by decide) rfl (by decide) (fun _ hz => nomatch hz) (by rw [e0]; exact clL_13) (by rw [e0]; exact caL_2) (Or.inr ⟨5, dL_simulate_14, by rw [hnL]; decide, rfl⟩) ?_
    refine r_iconst (pc := 16) (v := 1) dL_simulate_16 (by decide) ?_
    exact r_iretW dL_simulate_17 (gEndW_s he (Nat.le_refl _) (Nat.le_refl _)) (by rw [gYs_u]; unfold gUo; rw [if_neg hz])
abbrev rmL_save : Room := { frames := 8, cells := 1, slots := 6, locals := 123 }
theorem cd_L_save : Cond.codeWith yL_save cL_save 4 (some .int) [(0, 9, 12, 28)] ∈ gG := gG_mem (List.mem_of_getElem? (i := 927) (by decide +kernel)) rfl
theorem nm_L_save : gNm yL_save 3 := by unfold gNm; decide +kernel
theorem wL_212 : Cond.methodLink RL 212 yL_save ∈ gG ∧ Cond.static yL_save ∈ gG ∧ Cond.initialized (yL_save).cls ∈ gG := ⟨gG_mem (List.mem_of_getElem? (i := 925) (by decide +kernel)) rfl, gG_mem (List.mem_of_getElem? (i := 926) (by decide +kernel)) rfl, gG_mem (List.mem_of_getElem? (i := 72) (by decide +kernel)) rfl⟩
set_option maxHeartbeats 4000000 in
set_option maxRecDepth 100000 in
theorem tL_save (l : Launch) (hlt : l.stackTraces = false) (G : gX) (u : gU) (hF : gFull u) (p1 : Int32) (m : gM) (o : gM × Nat × Int32) (h : fX5_save p1 m = some o) (k : Int32) (hk : gKd [1] o.2.1 = some k) : gMetW l G u (gUo u o) yL_save (.codeWith yL_save cL_save 4 (some .int) [(0, 9, 12, 28)]) rmL_save [.ref 0, .int p1, .ref 10470] m o.1 (some (.int k)) := by
  refine gMetW_of (own := RL) (k := 1) (by decide) rfl ⟨rfl, rfl⟩ (Nat.le_of_ble_eq_true rfl) [some (.ref 0), some (.int p1), some (.ref 10470), none] rfl (fun Y hG hu hnL hLn hRm hCs he => ?_)
  subst hG hu hLn
  by_cases hz : o.2.1 = 0
  · have hk0 := gKd_ret hk hz
    subst hk0
    refine r_aload_n (pc := 0) dL_save_0 rfl rfl ?_
    refine r_iconst (pc := 1) (v := 0) dL_save_1 (by decide) ?_
    refine r_aload_n (pc := 2) dL_save_2 rfl rfl ?_
    refine r_iload_n (pc := 3) dL_save_3 rfl rfl ?_
    refine r_callV (kd := 4) (pc := 4) [.int _] (tX5_save _ _ _ hF _ _ _ h hz) ⟨rfl, rfl⟩ cd_X5_save wL_101 nm_X5_save rfl (by rw [hRm]; decide) rfl (Nat.le_of_ble_eq_true rfl) rfl (by decide) (gO4 hF) dL_save_4 ?_
    refine r_i2l (pc := 7) dL_save_7 ?_
    refine r_last (pc := 8) dL_save_8 (gOout hF) ?_
    refine r_goto (pc := 9) (tgt := 15) dL_save_9 (by decide) ?_
    refine r_iconst (pc := 15) (v := 0) dL_save_15 (by decide) ?_
    exact r_iretW dL_save_16 (gEndW_s he (by rw [hCs]; decide) (by rw [hCs]; decide)) (by rw [gYs_u]; unfold gUo; rw [if_pos hz])
  · obtain ⟨e0, rfl⟩ := gKd1 hk hz
    refine r_aload_n (pc := 0) dL_save_0 rfl rfl ?_
    refine r_iconst (pc := 1) (v := 0) dL_save_1 (by decide) ?_
    refine r_aload_n (pc := 2) dL_save_2 rfl rfl ?_
    refine r_iload_n (pc := 3) dL_save_3 rfl rfl ?_
    refine r_callVC (kd := 4) (pc := 4) (hp := 12) (hp1 := 13) [.int _] (tX5_saveT _ hlt _ _ hF _ _ _ h hz) ⟨rfl, rfl⟩ cd_X5_save wL_101 nm_X5_save rfl (by rw [hRm]; decide) rfl (Nat.le_of_ble_eq_true rfl) rfl (by decide) (gO4 hF) dL_save_4 he hCs 0 (by decide) (by rw [e0]; rfl) [] (0, 9, 12, 28) [] rfl (by decide) rfl (by decide) (fun _ hz => nomatch hz) (by rw [e0]; exact clL_28) (by rw [e0]; exact caL_1) (Or.inl ⟨3, 3, dL_save_12, rfl, by rw [hnL]; decide, rfl⟩) ?_
    refine r_iconst (pc := 13) (v := 1) dL_save_13 (by decide) ?_
    exact r_iretW dL_save_14 (gEndW_s he (Nat.le_refl _) (Nat.le_refl _)) (by rw [gYs_u]; unfold gUo; rw [if_neg hz])
abbrev rmL_restore : Room := { frames := 8, cells := 1, slots := 6, locals := 123 }
theorem cd_L_restore : Cond.codeWith yL_restore cL_restore 4 (some .int) [(0, 9, 12, 28), (0, 9, 15, 15)] ∈ gG := gG_mem (List.mem_of_getElem? (i := 937) (by decide +kernel)) rfl
theorem nm_L_restore : gNm yL_restore 3 := by unfold gNm; decide +kernel
theorem wL_215 : Cond.methodLink RL 215 yL_restore ∈ gG ∧ Cond.static yL_restore ∈ gG ∧ Cond.initialized (yL_restore).cls ∈ gG := ⟨gG_mem (List.mem_of_getElem? (i := 935) (by decide +kernel)) rfl, gG_mem (List.mem_of_getElem? (i := 936) (by decide +kernel)) rfl, gG_mem (List.mem_of_getElem? (i := 72) (by decide +kernel)) rfl⟩
set_option maxHeartbeats 4000000 in
set_option maxRecDepth 100000 in
theorem tL_restore (l : Launch) (hlt : l.stackTraces = false) (G : gX) (u : gU) (hF : gFull u) (p1 : Int32) (m : gM) (o : gM × Nat × Int32) (h : fX5_restore p1 m = some o) (k : Int32) (hk : gKd [1, 3] o.2.1 = some k) : gMetW l G u (gUo u o) yL_restore (.codeWith yL_restore cL_restore 4 (some .int) [(0, 9, 12, 28), (0, 9, 15, 15)]) rmL_restore [.ref 0, .int p1, .ref 10470] m o.1 (some (.int k)) := by
  refine gMetW_of (own := RL) (k := 1) (by decide) rfl ⟨rfl, rfl⟩ (Nat.le_of_ble_eq_true rfl) [some (.ref 0), some (.int p1), some (.ref 10470), none] rfl (fun Y hG hu hnL hLn hRm hCs he => ?_)
  subst hG hu hLn
  by_cases hz : o.2.1 = 0
  · have hk0 := gKd_ret hk hz
    subst hk0
    refine r_aload_n (pc := 0) dL_restore_0 rfl rfl ?_
    refine r_iconst (pc := 1) (v := 0) dL_restore_1 (by decide) ?_
    refine r_aload_n (pc := 2) dL_restore_2 rfl rfl ?_
    refine r_iload_n (pc := 3) dL_restore_3 rfl rfl ?_
    refine r_callV (kd := 4) (pc := 4) [.int _] (tX5_restore _ _ _ hF _ _ _ h hz) ⟨rfl, rfl⟩ cd_X5_restore wL_104 nm_X5_restore rfl (by rw [hRm]; decide) rfl (Nat.le_of_ble_eq_true rfl) rfl (by decide) (gO4 hF) dL_restore_4 ?_
    refine r_i2l (pc := 7) dL_restore_7 ?_
    refine r_last (pc := 8) dL_restore_8 (gOout hF) ?_
    refine r_goto (pc := 9) (tgt := 18) dL_restore_9 (by decide) ?_
    refine r_iconst (pc := 18) (v := 0) dL_restore_18 (by decide) ?_
    exact r_iretW dL_restore_19 (gEndW_s he (by rw [hCs]; decide) (by rw [hCs]; decide)) (by rw [gYs_u]; unfold gUo; rw [if_pos hz])
  · rcases gKd2 hk hz with ⟨e0, rfl⟩ | ⟨e1, rfl⟩
    · refine r_aload_n (pc := 0) dL_restore_0 rfl rfl ?_
      refine r_iconst (pc := 1) (v := 0) dL_restore_1 (by decide) ?_
      refine r_aload_n (pc := 2) dL_restore_2 rfl rfl ?_
      refine r_iload_n (pc := 3) dL_restore_3 rfl rfl ?_
      refine r_callVC (kd := 4) (pc := 4) (hp := 12) (hp1 := 13) [.int _] (tX5_restoreT _ hlt _ _ hF _ _ _ h hz) ⟨rfl, rfl⟩ cd_X5_restore wL_104 nm_X5_restore rfl (by rw [hRm]; decide) rfl (Nat.le_of_ble_eq_true rfl) rfl (by decide) (gO4 hF) dL_restore_4 he hCs 0 (by decide) (by rw [e0]; rfl) [] (0, 9, 12, 28) [(0, 9, 15, 15)] rfl (by decide) rfl (by decide) (fun _ hz => nomatch hz) (by rw [e0]; exact clL_28) (by rw [e0]; exact caL_1) (Or.inl ⟨3, 3, dL_restore_12, rfl, by rw [hnL]; decide, rfl⟩) ?_
      refine r_iconst (pc := 13) (v := 1) dL_restore_13 (by decide) ?_
      exact r_iretW dL_restore_14 (gEndW_s he (Nat.le_refl _) (Nat.le_refl _)) (by rw [gYs_u]; unfold gUo; rw [if_neg hz])
    · refine r_aload_n (pc := 0) dL_restore_0 rfl rfl ?_
      refine r_iconst (pc := 1) (v := 0) dL_restore_1 (by decide) ?_
      refine r_aload_n (pc := 2) dL_restore_2 rfl rfl ?_
      refine r_iload_n (pc := 3) dL_restore_3 rfl rfl ?_
      refine r_callVC (kd := 4) (pc := 4) (hp := 15) (hp1 := 16) [.int _] (tX5_restoreT _ hlt _ _ hF _ _ _ h hz) ⟨rfl, rfl⟩ cd_X5_restore wL_104 nm_X5_restore rfl (by rw [hRm]; decide) rfl (Nat.le_of_ble_eq_true rfl) rfl (by decide) (gO4 hF) dL_restore_4 he hCs 2 (by decide) (by rw [e1]; rfl) [(0, 9, 12, 28)] (0, 9, 15, 15) [] rfl (by decide) rfl (by decide) (fun z hz => by rcases List.mem_singleton.mp hz with rfl; exact ⟨by decide, 0, by decide, by decide, clL_28⟩) (by rw [e1]; exact clL_15) (by rw [e1]; exact caL_3) (Or.inl ⟨3, 3, dL_restore_15, rfl, by rw [hnL]; decide, rfl⟩) ?_
      refine r_iconst (pc := 16) (v := 2) dL_restore_16 (by decide) ?_
      exact r_iretW dL_restore_17 (gEndW_s he (Nat.le_refl _) (Nat.le_refl _)) (by rw [gYs_u]; unfold gUo; rw [if_neg hz])
