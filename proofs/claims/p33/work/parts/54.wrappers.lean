/-! the law's wrappers -/
theorem clL_13 : Cond.classLink RL 13 "java/lang/IndexOutOfBoundsException" ∈ gG := gG_mem (List.mem_of_getElem? (i := 626) (by decide +kernel)) rfl
theorem clL_16 : Cond.classLink RL 16 "java/lang/IllegalArgumentException" ∈ gG := gG_mem (List.mem_of_getElem? (i := 251) (by decide +kernel)) rfl
theorem clL_35 : Cond.classLink RL 35 "java/lang/IllegalStateException" ∈ gG := gG_mem (List.mem_of_getElem? (i := 252) (by decide +kernel)) rfl
theorem caL_1 : Cond.castable "java/lang/IndexOutOfBoundsException" "java/lang/IndexOutOfBoundsException" ∈ gN := gN_mem (List.mem_of_getElem? (i := 637) (by decide +kernel)) rfl
theorem caL_2 : Cond.castable "java/lang/IllegalArgumentException" "java/lang/IllegalArgumentException" ∈ gN := gN_mem (List.mem_of_getElem? (i := 265) (by decide +kernel)) rfl
theorem caL_3 : Cond.castable "java/lang/IllegalStateException" "java/lang/IllegalStateException" ∈ gN := gN_mem (List.mem_of_getElem? (i := 336) (by decide +kernel)) rfl
theorem cL_15 : Jvm.Cond.constant RL 15 (-9999001) ∈ gG := gG_mem (List.mem_of_getElem? (i := 658) (by decide +kernel)) rfl
theorem cL_18 : Jvm.Cond.constant RL 18 (-9999002) ∈ gG := gG_mem (List.mem_of_getElem? (i := 354) (by decide +kernel)) rfl
theorem cL_37 : Jvm.Cond.constant RL 37 (-9999003) ∈ gG := gG_mem (List.mem_of_getElem? (i := 355) (by decide +kernel)) rfl
theorem cL_188 : Jvm.Cond.constant RL 188 15519947 ∈ gG := gG_mem (List.mem_of_getElem? (i := 863) (by decide +kernel)) rfl
theorem cL_189 : Jvm.Cond.constant RL 189 2147483647 ∈ gG := gG_mem (List.mem_of_getElem? (i := 864) (by decide +kernel)) rfl
theorem cL_197 : Jvm.Cond.constant RL 197 10000000 ∈ gG := gG_mem (List.mem_of_getElem? (i := 888) (by decide +kernel)) rfl
theorem cL_220 : Jvm.Cond.constant RL 220 100000 ∈ gG := gG_mem (List.mem_of_getElem? (i := 958) (by decide +kernel)) rfl
theorem cL_206 : Jvm.Cond.constantLong RL 206 1000000 ∈ gG := gG_mem (List.mem_of_getElem? (i := 916) (by decide +kernel)) rfl
/-- the number by which the law tells an exception -/
def gThV (e : Nat) : Int32 := if e = 1 then -9999001 else if e = 2 then -9999002 else -9999003
def gTry (es : List Nat) (F : Option (gM × Nat × Int32)) : Option (gM × Int32) := match F with | none => none | some q => if q.2.1 = 0 then some (q.1, q.2.2) else if q.2.1 ∈ es then some (q.1, gThV q.2.1) else none
theorem gTry_some {es : List Nat} {F : Option (gM × Nat × Int32)} {o : gM × Int32} (h : gTry es F = some o) : ∃ q : gM × Nat × Int32, F = some q ∧ ((q.2.1 = 0 ∧ o = (q.1, q.2.2)) ∨ (q.2.1 ≠ 0 ∧ q.2.1 ∈ es ∧ o = (q.1, gThV q.2.1))) := by
  cases F with
  | none => cases h
  | some q =>
    refine ⟨q, rfl, ?_⟩
    simp only [gTry] at h
    split at h
    · rename_i h0
      exact Or.inl ⟨h0, (Option.some.inj h).symm⟩
    · rename_i h0
      split at h
      · rename_i h1
        exact Or.inr ⟨h0, h1, (Option.some.inj h).symm⟩
      · cases h
theorem gE1 {a e : Nat} (h : e ∈ [a]) : e = a := List.mem_singleton.mp h
theorem gE2 {a b e : Nat} (h : e ∈ [a, b]) : e = a ∨ e = b := by simpa using h
theorem gE3 {a b c e : Nat} (h : e ∈ [a, b, c]) : e = a ∨ e = b ∨ e = c := by simpa using h
abbrev rmL_tryAppend : Room := { frames := 8, cells := 1, slots := 6, locals := 123 }
theorem cd_L_tryAppend : Cond.codeWith yL_tryAppend cL_tryAppend 3 (some .int) [(0, 5, 6, 16), (0, 5, 10, 35)] ∈ gG := gG_mem (List.mem_of_getElem? (i := 250) (by decide +kernel)) rfl
theorem nm_L_tryAppend : gNm yL_tryAppend 2 := by unfold gNm; decide +kernel
def fL_tryAppend (a0 : Nat) (p1 : Int32) (m : gM) : Option (gM × Int32) := gTry [2, 3] (fX5_append a0 p1 m)
set_option maxHeartbeats 4000000 in
set_option maxRecDepth 100000 in
theorem tL_tryAppend (l : Launch) (hlt : l.stackTraces = false) (G : gX) (u : gU) (hF : gFull u) (a0 : Nat) (p1 : Int32) (m : gM) (o : gM × Int32) (h : fL_tryAppend a0 p1 m = some o) (h0 : gIn u a0 4 0) : gMetW l G u u yL_tryAppend (.codeWith yL_tryAppend cL_tryAppend 3 (some .int) [(0, 5, 6, 16), (0, 5, 10, 35)]) rmL_tryAppend [.ref a0, .int p1] m o.1 (some (.int o.2)) := by
  obtain ⟨q, hq, ⟨hz, rfl⟩ | ⟨hz, he, rfl⟩⟩ := gTry_some h
  · refine gMetW_of (own := RL) (k := 1) (by decide) rfl ⟨rfl, rfl⟩ (Nat.le_of_ble_eq_true rfl) [some (.ref a0), some (.int p1), none] rfl (fun Y hG hu hnL hLn hRm hCs he2 => ?_)
    subst hG hu hLn
    refine r_aload_n (pc := 0) dL_tryAppend_0 rfl rfl ?_
    refine r_iload_n (pc := 1) dL_tryAppend_1 rfl rfl ?_
    refine r_callV (kd := 4) (pc := 2) [.int _] (tX5_append _ _ _ hF _ _ _ _ hq hz h0) ⟨rfl, rfl⟩ cd_X5_append wL_31 nm_X5_append rfl (by rw [hRm]; decide) rfl (Nat.le_of_ble_eq_true rfl) rfl (by decide) h0 dL_tryAppend_2 ?_
    exact r_iretW dL_tryAppend_5 he2 rfl
  · refine gMetW_of (own := RL) (k := 1) (by decide) rfl ⟨rfl, rfl⟩ (Nat.le_of_ble_eq_true rfl) [some (.ref a0), some (.int p1), none] rfl (fun Y hG hu hnL hLn hRm hCs he2 => ?_)
    subst hG hu hLn
    rcases gE2 he with e0 | e1
    · refine r_aload_n (pc := 0) dL_tryAppend_0 rfl rfl ?_
      refine r_iload_n (pc := 1) dL_tryAppend_1 rfl rfl ?_
      refine r_callVC (kd := 4) (pc := 2) (hp := 6) (hp1 := 7) [.int _] (tX5_appendT _ hlt _ _ hF _ _ _ _ hq hz h0) ⟨rfl, rfl⟩ cd_X5_append wL_31 nm_X5_append rfl (by rw [hRm]; decide) rfl (Nat.le_of_ble_eq_true rfl) rfl (by decide) h0 dL_tryAppend_2 he2 hCs 1 (by decide) (by rw [e0]; rfl) [] (0, 5, 6, 16) [(0, 5, 10, 35)] rfl (by decide) rfl (by decide) (fun _ hz => nomatch hz) (by rw [e0]; exact clL_16) (by rw [e0]; exact caL_2) (Or.inl ⟨2, 2, dL_tryAppend_6, rfl, by rw [hnL]; decide, rfl⟩) ?_
      refine r_ldc (own := RL) (pc := 7) (v := (-9999002)) dL_tryAppend_7 cL_18 ?_
      rw [e0] at he2
      exact r_iretW dL_tryAppend_9 (gEndW_s he2 (Nat.le_refl _) (Nat.le_refl _)) gYs_u
    · refine r_aload_n (pc := 0) dL_tryAppend_0 rfl rfl ?_
      refine r_iload_n (pc := 1) dL_tryAppend_1 rfl rfl ?_
      refine r_callVC (kd := 4) (pc := 2) (hp := 10) (hp1 := 11) [.int _] (tX5_appendT _ hlt _ _ hF _ _ _ _ hq hz h0) ⟨rfl, rfl⟩ cd_X5_append wL_31 nm_X5_append rfl (by rw [hRm]; decide) rfl (Nat.le_of_ble_eq_true rfl) rfl (by decide) h0 dL_tryAppend_2 he2 hCs 2 (by decide) (by rw [e1]; rfl) [(0, 5, 6, 16)] (0, 5, 10, 35) [] rfl (by decide) rfl (by decide) (fun z hz => by rcases List.mem_singleton.mp hz with rfl; exact ⟨by decide, 1, by decide, by decide, clL_16⟩) (by rw [e1]; exact clL_35) (by rw [e1]; exact caL_3) (Or.inl ⟨2, 2, dL_tryAppend_10, rfl, by rw [hnL]; decide, rfl⟩) ?_
      refine r_ldc (own := RL) (pc := 11) (v := (-9999003)) dL_tryAppend_11 cL_37 ?_
      rw [e1] at he2
      exact r_iretW dL_tryAppend_13 (gEndW_s he2 (Nat.le_refl _) (Nat.le_refl _)) gYs_u
abbrev rmL_tryLoad : Room := { frames := 8, cells := 1, slots := 6, locals := 164 }
theorem cd_L_tryLoad : Cond.codeWith yL_tryLoad cL_tryLoad 2 (some .int) [(0, 4, 5, 35)] ∈ gG := gG_mem (List.mem_of_getElem? (i := 358) (by decide +kernel)) rfl
theorem nm_L_tryLoad : gNm yL_tryLoad 1 := by unfold gNm; decide +kernel
def fL_tryLoad (a0 : Nat)  (m : gM) : Option (gM × Int32) := gTry [3] (fX5_load a0  m)
set_option maxHeartbeats 4000000 in
set_option maxRecDepth 100000 in
theorem tL_tryLoad (l : Launch) (hlt : l.stackTraces = false) (G : gX) (u : gU) (hF : gFull u) (a0 : Nat)  (m : gM) (o : gM × Int32) (h : fL_tryLoad a0  m = some o) (h0 : gIn u a0 4 0) : gMetW l G u u yL_tryLoad (.codeWith yL_tryLoad cL_tryLoad 2 (some .int) [(0, 4, 5, 35)]) rmL_tryLoad [.ref a0] m o.1 (some (.int o.2)) := by
  obtain ⟨q, hq, ⟨hz, rfl⟩ | ⟨hz, he, rfl⟩⟩ := gTry_some h
  · refine gMetW_of (own := RL) (k := 1) (by decide) rfl ⟨rfl, rfl⟩ (Nat.le_of_ble_eq_true rfl) [some (.ref a0), none] rfl (fun Y hG hu hnL hLn hRm hCs he2 => ?_)
    subst hG hu hLn
    refine r_aload_n (pc := 0) dL_tryLoad_0 rfl rfl ?_
    refine r_callV (kd := 4) (pc := 1) [] (tX5_load _ _ _ hF _  _ _ hq hz h0) ⟨rfl, rfl⟩ cd_X5_load wL_38 nm_X5_load rfl (by rw [hRm]; decide) rfl (Nat.le_of_ble_eq_true rfl) rfl (by decide) h0 dL_tryLoad_1 ?_
    exact r_iretW dL_tryLoad_4 he2 rfl
  · refine gMetW_of (own := RL) (k := 1) (by decide) rfl ⟨rfl, rfl⟩ (Nat.le_of_ble_eq_true rfl) [some (.ref a0), none] rfl (fun Y hG hu hnL hLn hRm hCs he2 => ?_)
    subst hG hu hLn
    have e0 := gE1 he
    refine r_aload_n (pc := 0) dL_tryLoad_0 rfl rfl ?_
    refine r_callVC (kd := 4) (pc := 1) (hp := 5) (hp1 := 6) [] (tX5_loadT _ hlt _ _ hF _  _ _ hq hz h0) ⟨rfl, rfl⟩ cd_X5_load wL_38 nm_X5_load rfl (by rw [hRm]; decide) rfl (Nat.le_of_ble_eq_true rfl) rfl (by decide) h0 dL_tryLoad_1 he2 hCs 2 (by decide) (by rw [e0]; rfl) [] (0, 4, 5, 35) [] rfl (by decide) rfl (by decide) (fun _ hz => nomatch hz) (by rw [e0]; exact clL_35) (by rw [e0]; exact caL_3) (Or.inl ⟨1, 1, dL_tryLoad_5, rfl, by rw [hnL]; decide, rfl⟩) ?_
    refine r_ldc (own := RL) (pc := 6) (v := (-9999003)) dL_tryLoad_6 cL_37 ?_
    rw [e0] at he2
    exact r_iretW dL_tryLoad_8 (gEndW_s he2 (Nat.le_refl _) (Nat.le_refl _)) gYs_u
abbrev rmL_tryAbout : Room := { frames := 8, cells := 1, slots := 6, locals := 123 }
theorem cd_L_tryAbout : Cond.codeWith yL_tryAbout cL_tryAbout 3 (some .int) [(0, 5, 6, 16)] ∈ gG := gG_mem (List.mem_of_getElem? (i := 602) (by decide +kernel)) rfl
theorem nm_L_tryAbout : gNm yL_tryAbout 2 := by unfold gNm; decide +kernel
def fL_tryAbout (a0 : Nat) (p1 : Int32) (m : gM) : Option (gM × Int32) := gTry [2] (fX5_about a0 p1 m)
set_option maxHeartbeats 4000000 in
set_option maxRecDepth 100000 in
theorem tL_tryAbout (l : Launch) (hlt : l.stackTraces = false) (G : gX) (u : gU) (hF : gFull u) (a0 : Nat) (p1 : Int32) (m : gM) (o : gM × Int32) (h : fL_tryAbout a0 p1 m = some o) (h0 : gIn u a0 4 0) : gMetW l G u u yL_tryAbout (.codeWith yL_tryAbout cL_tryAbout 3 (some .int) [(0, 5, 6, 16)]) rmL_tryAbout [.ref a0, .int p1] m o.1 (some (.int o.2)) := by
  obtain ⟨q, hq, ⟨hz, rfl⟩ | ⟨hz, he, rfl⟩⟩ := gTry_some h
  · refine gMetW_of (own := RL) (k := 1) (by decide) rfl ⟨rfl, rfl⟩ (Nat.le_of_ble_eq_true rfl) [some (.ref a0), some (.int p1), none] rfl (fun Y hG hu hnL hLn hRm hCs he2 => ?_)
    subst hG hu hLn
    refine r_aload_n (pc := 0) dL_tryAbout_0 rfl rfl ?_
    refine r_iload_n (pc := 1) dL_tryAbout_1 rfl rfl ?_
    refine r_callV (kd := 4) (pc := 2) [.int _] (tX5_about _ _ _ hF _ _ _ _ hq hz h0) ⟨rfl, rfl⟩ cd_X5_about wL_42 nm_X5_about rfl (by rw [hRm]; decide) rfl (Nat.le_of_ble_eq_true rfl) rfl (by decide) h0 dL_tryAbout_2 ?_
    exact r_iretW dL_tryAbout_5 he2 rfl
  · refine gMetW_of (own := RL) (k := 1) (by decide) rfl ⟨rfl, rfl⟩ (Nat.le_of_ble_eq_true rfl) [some (.ref a0), some (.int p1), none] rfl (fun Y hG hu hnL hLn hRm hCs he2 => ?_)
    subst hG hu hLn
    have e0 := gE1 he
    refine r_aload_n (pc := 0) dL_tryAbout_0 rfl rfl ?_
    refine r_iload_n (pc := 1) dL_tryAbout_1 rfl rfl ?_
    refine r_callVC (kd := 4) (pc := 2) (hp := 6) (hp1 := 7) [.int _] (tX5_aboutT _ hlt _ _ hF _ _ _ _ hq hz h0) ⟨rfl, rfl⟩ cd_X5_about wL_42 nm_X5_about rfl (by rw [hRm]; decide) rfl (Nat.le_of_ble_eq_true rfl) rfl (by decide) h0 dL_tryAbout_2 he2 hCs 1 (by decide) (by rw [e0]; rfl) [] (0, 5, 6, 16) [] rfl (by decide) rfl (by decide) (fun _ hz => nomatch hz) (by rw [e0]; exact clL_16) (by rw [e0]; exact caL_2) (Or.inl ⟨2, 2, dL_tryAbout_6, rfl, by rw [hnL]; decide, rfl⟩) ?_
    refine r_ldc (own := RL) (pc := 7) (v := (-9999002)) dL_tryAbout_7 cL_18 ?_
    rw [e0] at he2
    exact r_iretW dL_tryAbout_9 (gEndW_s he2 (Nat.le_refl _) (Nat.le_refl _)) gYs_u
abbrev rmL_tryTold : Room := { frames := 8, cells := 1, slots := 6, locals := 124 }
theorem cd_L_tryTold : Cond.codeWith yL_tryTold cL_tryTold 4 (some .int) [(0, 6, 7, 13), (0, 6, 11, 16)] ∈ gG := gG_mem (List.mem_of_getElem? (i := 625) (by decide +kernel)) rfl
theorem nm_L_tryTold : gNm yL_tryTold 3 := by unfold gNm; decide +kernel
def fL_tryTold (a0 : Nat) (p1 : Int32) (p2 : Int32) (m : gM) : Option (gM × Int32) := gTry [1, 2] (fX5_customerOf a0 p1 p2 m)
set_option maxHeartbeats 4000000 in
set_option maxRecDepth 100000 in
theorem tL_tryTold (l : Launch) (hlt : l.stackTraces = false) (G : gX) (u : gU) (hF : gFull u) (a0 : Nat) (p1 : Int32) (p2 : Int32) (m : gM) (o : gM × Int32) (h : fL_tryTold a0 p1 p2 m = some o) (h0 : gIn u a0 4 0) : gMetW l G u u yL_tryTold (.codeWith yL_tryTold cL_tryTold 4 (some .int) [(0, 6, 7, 13), (0, 6, 11, 16)]) rmL_tryTold [.ref a0, .int p1, .int p2] m o.1 (some (.int o.2)) := by
  obtain ⟨q, hq, ⟨hz, rfl⟩ | ⟨hz, he, rfl⟩⟩ := gTry_some h
  · refine gMetW_of (own := RL) (k := 1) (by decide) rfl ⟨rfl, rfl⟩ (Nat.le_of_ble_eq_true rfl) [some (.ref a0), some (.int p1), some (.int p2), none] rfl (fun Y hG hu hnL hLn hRm hCs he2 => ?_)
    subst hG hu hLn
    refine r_aload_n (pc := 0) dL_tryTold_0 rfl rfl ?_
    refine r_iload_n (pc := 1) dL_tryTold_1 rfl rfl ?_
    refine r_iload_n (pc := 2) dL_tryTold_2 rfl rfl ?_
    refine r_callV (kd := 4) (pc := 3) [.int _, .int _] (tX5_customerOf _ _ _ hF _ _ _ _ _ hq hz h0) ⟨rfl, rfl⟩ cd_X5_customerOf wL_45 nm_X5_customerOf rfl (by rw [hRm]; decide) rfl (Nat.le_of_ble_eq_true rfl) rfl (by decide) h0 dL_tryTold_3 ?_
    exact r_iretW dL_tryTold_6 he2 rfl
  · refine gMetW_of (own := RL) (k := 1) (by decide) rfl ⟨rfl, rfl⟩ (Nat.le_of_ble_eq_true rfl) [some (.ref a0), some (.int p1), some (.int p2), none] rfl (fun Y hG hu hnL hLn hRm hCs he2 => ?_)
    subst hG hu hLn
    rcases gE2 he with e0 | e1
    · refine r_aload_n (pc := 0) dL_tryTold_0 rfl rfl ?_
      refine r_iload_n (pc := 1) dL_tryTold_1 rfl rfl ?_
      refine r_iload_n (pc := 2) dL_tryTold_2 rfl rfl ?_
      refine r_callVC (kd := 4) (pc := 3) (hp := 7) (hp1 := 8) [.int _, .int _] (tX5_customerOfT _ hlt _ _ hF _ _ _ _ _ hq hz h0) ⟨rfl, rfl⟩ cd_X5_customerOf wL_45 nm_X5_customerOf rfl (by rw [hRm]; decide) rfl (Nat.le_of_ble_eq_true rfl) rfl (by decide) h0 dL_tryTold_3 he2 hCs 0 (by decide) (by rw [e0]; rfl) [] (0, 6, 7, 13) [(0, 6, 11, 16)] rfl (by decide) rfl (by decide) (fun _ hz => nomatch hz) (by rw [e0]; exact clL_13) (by rw [e0]; exact caL_1) (Or.inl ⟨3, 3, dL_tryTold_7, rfl, by rw [hnL]; decide, rfl⟩) ?_
      refine r_ldc (own := RL) (pc := 8) (v := (-9999001)) dL_tryTold_8 cL_15 ?_
      rw [e0] at he2
      exact r_iretW dL_tryTold_10 (gEndW_s he2 (Nat.le_refl _) (Nat.le_refl _)) gYs_u
    · refine r_aload_n (pc := 0) dL_tryTold_0 rfl rfl ?_
      refine r_iload_n (pc := 1) dL_tryTold_1 rfl rfl ?_
      refine r_iload_n (pc := 2) dL_tryTold_2 rfl rfl ?_
      refine r_callVC (kd := 4) (pc := 3) (hp := 11) (hp1 := 12) [.int _, .int _] (tX5_customerOfT _ hlt _ _ hF _ _ _ _ _ hq hz h0) ⟨rfl, rfl⟩ cd_X5_customerOf wL_45 nm_X5_customerOf rfl (by rw [hRm]; decide) rfl (Nat.le_of_ble_eq_true rfl) rfl (by decide) h0 dL_tryTold_3 he2 hCs 1 (by decide) (by rw [e1]; rfl) [(0, 6, 7, 13)] (0, 6, 11, 16) [] rfl (by decide) rfl (by decide) (fun z hz => by rcases List.mem_singleton.mp hz with rfl; exact ⟨by decide, 0, by decide, by decide, clL_13⟩) (by rw [e1]; exact clL_16) (by rw [e1]; exact caL_2) (Or.inl ⟨3, 3, dL_tryTold_11, rfl, by rw [hnL]; decide, rfl⟩) ?_
      refine r_ldc (own := RL) (pc := 12) (v := (-9999002)) dL_tryTold_12 cL_18 ?_
      rw [e1] at he2
      exact r_iretW dL_tryTold_14 (gEndW_s he2 (Nat.le_refl _) (Nat.le_refl _)) gYs_u
abbrev rmL_tryOrdered : Room := { frames := 8, cells := 1, slots := 6, locals := 124 }
theorem cd_L_tryOrdered : Cond.codeWith yL_tryOrdered cL_tryOrdered 4 (some .int) [(0, 6, 7, 13)] ∈ gG := gG_mem (List.mem_of_getElem? (i := 661) (by decide +kernel)) rfl
theorem nm_L_tryOrdered : gNm yL_tryOrdered 3 := by unfold gNm; decide +kernel
def fL_tryOrdered (a0 : Nat) (p1 : Int32) (p2 : Int32) (m : gM) : Option (gM × Int32) := gTry [1] (fX5_ordered a0 p1 p2 m)
set_option maxHeartbeats 4000000 in
set_option maxRecDepth 100000 in
theorem tL_tryOrdered (l : Launch) (hlt : l.stackTraces = false) (G : gX) (u : gU) (hF : gFull u) (a0 : Nat) (p1 : Int32) (p2 : Int32) (m : gM) (o : gM × Int32) (h : fL_tryOrdered a0 p1 p2 m = some o) (h0 : gIn u a0 4 0) : gMetW l G u u yL_tryOrdered (.codeWith yL_tryOrdered cL_tryOrdered 4 (some .int) [(0, 6, 7, 13)]) rmL_tryOrdered [.ref a0, .int p1, .int p2] m o.1 (some (.int o.2)) := by
  obtain ⟨q, hq, ⟨hz, rfl⟩ | ⟨hz, he, rfl⟩⟩ := gTry_some h
  · refine gMetW_of (own := RL) (k := 1) (by decide) rfl ⟨rfl, rfl⟩ (Nat.le_of_ble_eq_true rfl) [some (.ref a0), some (.int p1), some (.int p2), none] rfl (fun Y hG hu hnL hLn hRm hCs he2 => ?_)
    subst hG hu hLn
    refine r_aload_n (pc := 0) dL_tryOrdered_0 rfl rfl ?_
    refine r_iload_n (pc := 1) dL_tryOrdered_1 rfl rfl ?_
    refine r_iload_n (pc := 2) dL_tryOrdered_2 rfl rfl ?_
    refine r_callV (kd := 4) (pc := 3) [.int _, .int _] (tX5_ordered _ _ _ hF _ _ _ _ _ hq hz h0) ⟨rfl, rfl⟩ cd_X5_ordered wL_49 nm_X5_ordered rfl (by rw [hRm]; decide) rfl (Nat.le_of_ble_eq_true rfl) rfl (by decide) h0 dL_tryOrdered_3 ?_
    exact r_iretW dL_tryOrdered_6 he2 rfl
  · refine gMetW_of (own := RL) (k := 1) (by decide) rfl ⟨rfl, rfl⟩ (Nat.le_of_ble_eq_true rfl) [some (.ref a0), some (.int p1), some (.int p2), none] rfl (fun Y hG hu hnL hLn hRm hCs he2 => ?_)
    subst hG hu hLn
    have e0 := gE1 he
    refine r_aload_n (pc := 0) dL_tryOrdered_0 rfl rfl ?_
    refine r_iload_n (pc := 1) dL_tryOrdered_1 rfl rfl ?_
    refine r_iload_n (pc := 2) dL_tryOrdered_2 rfl rfl ?_
    refine r_callVC (kd := 4) (pc := 3) (hp := 7) (hp1 := 8) [.int _, .int _] (tX5_orderedT _ hlt _ _ hF _ _ _ _ _ hq hz h0) ⟨rfl, rfl⟩ cd_X5_ordered wL_49 nm_X5_ordered rfl (by rw [hRm]; decide) rfl (Nat.le_of_ble_eq_true rfl) rfl (by decide) h0 dL_tryOrdered_3 he2 hCs 0 (by decide) (by rw [e0]; rfl) [] (0, 6, 7, 13) [] rfl (by decide) rfl (by decide) (fun _ hz => nomatch hz) (by rw [e0]; exact clL_13) (by rw [e0]; exact caL_1) (Or.inl ⟨3, 3, dL_tryOrdered_7, rfl, by rw [hnL]; decide, rfl⟩) ?_
    refine r_ldc (own := RL) (pc := 8) (v := (-9999001)) dL_tryOrdered_8 cL_15 ?_
    rw [e0] at he2
    exact r_iretW dL_tryOrdered_10 (gEndW_s he2 (Nat.le_refl _) (Nat.le_refl _)) gYs_u
abbrev rmL_tryAway : Room := { frames := 8, cells := 1, slots := 6, locals := 126 }
theorem cd_L_tryAway : Cond.codeWith yL_tryAway cL_tryAway 5 (some .int) [(0, 7, 8, 13), (0, 7, 13, 16)] ∈ gG := gG_mem (List.mem_of_getElem? (i := 669) (by decide +kernel)) rfl
theorem nm_L_tryAway : gNm yL_tryAway 4 := by unfold gNm; decide +kernel
def fL_tryAway (a0 : Nat) (p1 : Int32) (p2 : Int32) (p3 : Int32) (m : gM) : Option (gM × Int32) := gTry [1, 2] (fX5_away a0 p1 p2 p3 m)
set_option maxHeartbeats 4000000 in
set_option maxRecDepth 100000 in
theorem tL_tryAway (l : Launch) (hlt : l.stackTraces = false) (G : gX) (u : gU) (hF : gFull u) (a0 : Nat) (p1 : Int32) (p2 : Int32) (p3 : Int32) (m : gM) (o : gM × Int32) (h : fL_tryAway a0 p1 p2 p3 m = some o) (h0 : gIn u a0 4 0) : gMetW l G u u yL_tryAway (.codeWith yL_tryAway cL_tryAway 5 (some .int) [(0, 7, 8, 13), (0, 7, 13, 16)]) rmL_tryAway [.ref a0, .int p1, .int p2, .int p3] m o.1 (some (.int o.2)) := by
  obtain ⟨q, hq, ⟨hz, rfl⟩ | ⟨hz, he, rfl⟩⟩ := gTry_some h
  · refine gMetW_of (own := RL) (k := 1) (by decide) rfl ⟨rfl, rfl⟩ (Nat.le_of_ble_eq_true rfl) [some (.ref a0), some (.int p1), some (.int p2), some (.int p3), none] rfl (fun Y hG hu hnL hLn hRm hCs he2 => ?_)
    subst hG hu hLn
    refine r_aload_n (pc := 0) dL_tryAway_0 rfl rfl ?_
    refine r_iload_n (pc := 1) dL_tryAway_1 rfl rfl ?_
    refine r_iload_n (pc := 2) dL_tryAway_2 rfl rfl ?_
    refine r_iload_n (pc := 3) dL_tryAway_3 rfl rfl ?_
    refine r_callV (kd := 4) (pc := 4) [.int _, .int _, .int _] (tX5_away _ _ _ hF _ _ _ _ _ _ hq hz h0) ⟨rfl, rfl⟩ cd_X5_away wL_52 nm_X5_away rfl (by rw [hRm]; decide) rfl (Nat.le_of_ble_eq_true rfl) rfl (by decide) h0 dL_tryAway_4 ?_
    exact r_iretW dL_tryAway_7 he2 rfl
  · refine gMetW_of (own := RL) (k := 1) (by decide) rfl ⟨rfl, rfl⟩ (Nat.le_of_ble_eq_true rfl) [some (.ref a0), some (.int p1), some (.int p2), some (.int p3), none] rfl (fun Y hG hu hnL hLn hRm hCs he2 => ?_)
    subst hG hu hLn
    rcases gE2 he with e0 | e1
    · refine r_aload_n (pc := 0) dL_tryAway_0 rfl rfl ?_
      refine r_iload_n (pc := 1) dL_tryAway_1 rfl rfl ?_
      refine r_iload_n (pc := 2) dL_tryAway_2 rfl rfl ?_
      refine r_iload_n (pc := 3) dL_tryAway_3 rfl rfl ?_
      refine r_callVC (kd := 4) (pc := 4) (hp := 8) (hp1 := 10) [.int _, .int _, .int _] (tX5_awayT _ hlt _ _ hF _ _ _ _ _ _ hq hz h0) ⟨rfl, rfl⟩ cd_X5_away wL_52 nm_X5_away rfl (by rw [hRm]; decide) rfl (Nat.le_of_ble_eq_true rfl) rfl (by decide) h0 dL_tryAway_4 he2 hCs 0 (by decide) (by rw [e0]; rfl) [] (0, 7, 8, 13) [(0, 7, 13, 16)] rfl (by decide) rfl (by decide) (fun _ hz => nomatch hz) (by rw [e0]; exact clL_13) (by rw [e0]; exact caL_1) (Or.inr ⟨4, dL_tryAway_8, by rw [hnL]; decide, rfl⟩) ?_
      refine r_ldc (own := RL) (pc := 10) (v := (-9999001)) dL_tryAway_10 cL_15 ?_
      rw [e0] at he2
      exact r_iretW dL_tryAway_12 (gEndW_s he2 (Nat.le_refl _) (Nat.le_refl _)) gYs_u
    · refine r_aload_n (pc := 0) dL_tryAway_0 rfl rfl ?_
      refine r_iload_n (pc := 1) dL_tryAway_1 rfl rfl ?_
      refine r_iload_n (pc := 2) dL_tryAway_2 rfl rfl ?_
      refine r_iload_n (pc := 3) dL_tryAway_3 rfl rfl ?_
      refine r_callVC (kd := 4) (pc := 4) (hp := 13) (hp1 := 15) [.int _, .int _, .int _] (tX5_awayT _ hlt _ _ hF _ _ _ _ _ _ hq hz h0) ⟨rfl, rfl⟩ cd_X5_away wL_52 nm_X5_away rfl (by rw [hRm]; decide) rfl (Nat.le_of_ble_eq_true rfl) rfl (by decide) h0 dL_tryAway_4 he2 hCs 1 (by decide) (by rw [e1]; rfl) [(0, 7, 8, 13)] (0, 7, 13, 16) [] rfl (by decide) rfl (by decide) (fun z hz => by rcases List.mem_singleton.mp hz with rfl; exact ⟨by decide, 0, by decide, by decide, clL_13⟩) (by rw [e1]; exact clL_16) (by rw [e1]; exact caL_2) (Or.inr ⟨4, dL_tryAway_13, by rw [hnL]; decide, rfl⟩) ?_
      refine r_ldc (own := RL) (pc := 15) (v := (-9999002)) dL_tryAway_15 cL_18 ?_
      rw [e1] at he2
      exact r_iretW dL_tryAway_17 (gEndW_s he2 (Nat.le_refl _) (Nat.le_refl _)) gYs_u
abbrev rmL_tryClosed : Room := { frames := 8, cells := 1, slots := 6, locals := 124 }
theorem cd_L_tryClosed : Cond.codeWith yL_tryClosed cL_tryClosed 4 (some .int) [(0, 6, 7, 13)] ∈ gG := gG_mem (List.mem_of_getElem? (i := 676) (by decide +kernel)) rfl
theorem nm_L_tryClosed : gNm yL_tryClosed 3 := by unfold gNm; decide +kernel
def fL_tryClosed (a0 : Nat) (p1 : Int32) (p2 : Int32) (m : gM) : Option (gM × Int32) := gTry [1] (fX5_isClosed a0 p1 p2 m)
set_option maxHeartbeats 4000000 in
set_option maxRecDepth 100000 in
theorem tL_tryClosed (l : Launch) (hlt : l.stackTraces = false) (G : gX) (u : gU) (hF : gFull u) (a0 : Nat) (p1 : Int32) (p2 : Int32) (m : gM) (o : gM × Int32) (h : fL_tryClosed a0 p1 p2 m = some o) (h0 : gIn u a0 4 0) : gMetW l G u u yL_tryClosed (.codeWith yL_tryClosed cL_tryClosed 4 (some .int) [(0, 6, 7, 13)]) rmL_tryClosed [.ref a0, .int p1, .int p2] m o.1 (some (.int o.2)) := by
  obtain ⟨q, hq, ⟨hz, rfl⟩ | ⟨hz, he, rfl⟩⟩ := gTry_some h
  · refine gMetW_of (own := RL) (k := 1) (by decide) rfl ⟨rfl, rfl⟩ (Nat.le_of_ble_eq_true rfl) [some (.ref a0), some (.int p1), some (.int p2), none] rfl (fun Y hG hu hnL hLn hRm hCs he2 => ?_)
    subst hG hu hLn
    refine r_aload_n (pc := 0) dL_tryClosed_0 rfl rfl ?_
    refine r_iload_n (pc := 1) dL_tryClosed_1 rfl rfl ?_
    refine r_iload_n (pc := 2) dL_tryClosed_2 rfl rfl ?_
    refine r_callV (kd := 4) (pc := 3) [.int _, .int _] (tX5_isClosed _ _ _ hF _ _ _ _ _ hq hz h0) ⟨rfl, rfl⟩ cd_X5_isClosed wL_56 nm_X5_isClosed rfl (by rw [hRm]; decide) rfl (Nat.le_of_ble_eq_true rfl) rfl (by decide) h0 dL_tryClosed_3 ?_
    exact r_iretW dL_tryClosed_6 he2 rfl
  · refine gMetW_of (own := RL) (k := 1) (by decide) rfl ⟨rfl, rfl⟩ (Nat.le_of_ble_eq_true rfl) [some (.ref a0), some (.int p1), some (.int p2), none] rfl (fun Y hG hu hnL hLn hRm hCs he2 => ?_)
    subst hG hu hLn
    have e0 := gE1 he
    refine r_aload_n (pc := 0) dL_tryClosed_0 rfl rfl ?_
    refine r_iload_n (pc := 1) dL_tryClosed_1 rfl rfl ?_
    refine r_iload_n (pc := 2) dL_tryClosed_2 rfl rfl ?_
    refine r_callVC (kd := 4) (pc := 3) (hp := 7) (hp1 := 8) [.int _, .int _] (tX5_isClosedT _ hlt _ _ hF _ _ _ _ _ hq hz h0) ⟨rfl, rfl⟩ cd_X5_isClosed wL_56 nm_X5_isClosed rfl (by rw [hRm]; decide) rfl (Nat.le_of_ble_eq_true rfl) rfl (by decide) h0 dL_tryClosed_3 he2 hCs 0 (by decide) (by rw [e0]; rfl) [] (0, 6, 7, 13) [] rfl (by decide) rfl (by decide) (fun _ hz => nomatch hz) (by rw [e0]; exact clL_13) (by rw [e0]; exact caL_1) (Or.inl ⟨3, 3, dL_tryClosed_7, rfl, by rw [hnL]; decide, rfl⟩) ?_
    refine r_ldc (own := RL) (pc := 8) (v := (-9999001)) dL_tryClosed_8 cL_15 ?_
    rw [e0] at he2
    exact r_iretW dL_tryClosed_10 (gEndW_s he2 (Nat.le_refl _) (Nat.le_refl _)) gYs_u
abbrev rmL_tryRound : Room := { frames := 8, cells := 1, slots := 6, locals := 123 }
theorem cd_L_tryRound : Cond.codeWith yL_tryRound cL_tryRound 3 (some .int) [(0, 5, 6, 13)] ∈ gG := gG_mem (List.mem_of_getElem? (i := 685) (by decide +kernel)) rfl
theorem nm_L_tryRound : gNm yL_tryRound 2 := by unfold gNm; decide +kernel
def fL_tryRound (a0 : Nat) (p1 : Int32) (m : gM) : Option (gM × Int32) := gTry [1] (fX5_round a0 p1 m)
set_option maxHeartbeats 4000000 in
set_option maxRecDepth 100000 in
theorem tL_tryRound (l : Launch) (hlt : l.stackTraces = false) (G : gX) (u : gU) (hF : gFull u) (a0 : Nat) (p1 : Int32) (m : gM) (o : gM × Int32) (h : fL_tryRound a0 p1 m = some o) (h0 : gIn u a0 4 0) : gMetW l G u u yL_tryRound (.codeWith yL_tryRound cL_tryRound 3 (some .int) [(0, 5, 6, 13)]) rmL_tryRound [.ref a0, .int p1] m o.1 (some (.int o.2)) := by
  obtain ⟨q, hq, ⟨hz, rfl⟩ | ⟨hz, he, rfl⟩⟩ := gTry_some h
  · refine gMetW_of (own := RL) (k := 1) (by decide) rfl ⟨rfl, rfl⟩ (Nat.le_of_ble_eq_true rfl) [some (.ref a0), some (.int p1), none] rfl (fun Y hG hu hnL hLn hRm hCs he2 => ?_)
    subst hG hu hLn
    refine r_aload_n (pc := 0) dL_tryRound_0 rfl rfl ?_
    refine r_iload_n (pc := 1) dL_tryRound_1 rfl rfl ?_
    refine r_callV (kd := 4) (pc := 2) [.int _] (tX5_round _ _ _ hF _ _ _ _ hq hz h0) ⟨rfl, rfl⟩ cd_X5_round wL_59 nm_X5_round rfl (by rw [hRm]; decide) rfl (Nat.le_of_ble_eq_true rfl) rfl (by decide) h0 dL_tryRound_2 ?_
    exact r_iretW dL_tryRound_5 he2 rfl
  · refine gMetW_of (own := RL) (k := 1) (by decide) rfl ⟨rfl, rfl⟩ (Nat.le_of_ble_eq_true rfl) [some (.ref a0), some (.int p1), none] rfl (fun Y hG hu hnL hLn hRm hCs he2 => ?_)
    subst hG hu hLn
    have e0 := gE1 he
    refine r_aload_n (pc := 0) dL_tryRound_0 rfl rfl ?_
    refine r_iload_n (pc := 1) dL_tryRound_1 rfl rfl ?_
    refine r_callVC (kd := 4) (pc := 2) (hp := 6) (hp1 := 7) [.int _] (tX5_roundT _ hlt _ _ hF _ _ _ _ hq hz h0) ⟨rfl, rfl⟩ cd_X5_round wL_59 nm_X5_round rfl (by rw [hRm]; decide) rfl (Nat.le_of_ble_eq_true rfl) rfl (by decide) h0 dL_tryRound_2 he2 hCs 0 (by decide) (by rw [e0]; rfl) [] (0, 5, 6, 13) [] rfl (by decide) rfl (by decide) (fun _ hz => nomatch hz) (by rw [e0]; exact clL_13) (by rw [e0]; exact caL_1) (Or.inl ⟨2, 2, dL_tryRound_6, rfl, by rw [hnL]; decide, rfl⟩) ?_
    refine r_ldc (own := RL) (pc := 7) (v := (-9999001)) dL_tryRound_7 cL_15 ?_
    rw [e0] at he2
    exact r_iretW dL_tryRound_9 (gEndW_s he2 (Nat.le_refl _) (Nat.le_refl _)) gYs_u
abbrev rmL_trySetting : Room := { frames := 8, cells := 1, slots := 6, locals := 123 }
theorem cd_L_trySetting : Cond.codeWith yL_trySetting cL_trySetting 3 (some .int) [(0, 5, 6, 16)] ∈ gG := gG_mem (List.mem_of_getElem? (i := 692) (by decide +kernel)) rfl
theorem nm_L_trySetting : gNm yL_trySetting 2 := by unfold gNm; decide +kernel
def fL_trySetting (a0 : Nat) (p1 : Int32) (m : gM) : Option (gM × Int32) := gTry [2] (fX5_setting a0 p1 m)
set_option maxHeartbeats 4000000 in
set_option maxRecDepth 100000 in
theorem tL_trySetting (l : Launch) (hlt : l.stackTraces = false) (G : gX) (u : gU) (hF : gFull u) (a0 : Nat) (p1 : Int32) (m : gM) (o : gM × Int32) (h : fL_trySetting a0 p1 m = some o) (h0 : gIn u a0 4 0) : gMetW l G u u yL_trySetting (.codeWith yL_trySetting cL_trySetting 3 (some .int) [(0, 5, 6, 16)]) rmL_trySetting [.ref a0, .int p1] m o.1 (some (.int o.2)) := by
  obtain ⟨q, hq, ⟨hz, rfl⟩ | ⟨hz, he, rfl⟩⟩ := gTry_some h
  · refine gMetW_of (own := RL) (k := 1) (by decide) rfl ⟨rfl, rfl⟩ (Nat.le_of_ble_eq_true rfl) [some (.ref a0), some (.int p1), none] rfl (fun Y hG hu hnL hLn hRm hCs he2 => ?_)
    subst hG hu hLn
    refine r_aload_n (pc := 0) dL_trySetting_0 rfl rfl ?_
    refine r_iload_n (pc := 1) dL_trySetting_1 rfl rfl ?_
    refine r_callV (kd := 4) (pc := 2) [.int _] (tX5_setting _ _ _ hF _ _ _ _ hq hz h0) ⟨rfl, rfl⟩ cd_X5_setting wL_62 nm_X5_setting rfl (by rw [hRm]; decide) rfl (Nat.le_of_ble_eq_true rfl) rfl (by decide) h0 dL_trySetting_2 ?_
    exact r_iretW dL_trySetting_5 he2 rfl
  · refine gMetW_of (own := RL) (k := 1) (by decide) rfl ⟨rfl, rfl⟩ (Nat.le_of_ble_eq_true rfl) [some (.ref a0), some (.int p1), none] rfl (fun Y hG hu hnL hLn hRm hCs he2 => ?_)
    subst hG hu hLn
    have e0 := gE1 he
    refine r_aload_n (pc := 0) dL_trySetting_0 rfl rfl ?_
    refine r_iload_n (pc := 1) dL_trySetting_1 rfl rfl ?_
    refine r_callVC (kd := 4) (pc := 2) (hp := 6) (hp1 := 7) [.int _] (tX5_settingT _ hlt _ _ hF _ _ _ _ hq hz h0) ⟨rfl, rfl⟩ cd_X5_setting wL_62 nm_X5_setting rfl (by rw [hRm]; decide) rfl (Nat.le_of_ble_eq_true rfl) rfl (by decide) h0 dL_trySetting_2 he2 hCs 1 (by decide) (by rw [e0]; rfl) [] (0, 5, 6, 16) [] rfl (by decide) rfl (by decide) (fun _ hz => nomatch hz) (by rw [e0]; exact clL_16) (by rw [e0]; exact caL_2) (Or.inl ⟨2, 2, dL_trySetting_6, rfl, by rw [hnL]; decide, rfl⟩) ?_
    refine r_ldc (own := RL) (pc := 7) (v := (-9999002)) dL_trySetting_7 cL_18 ?_
    rw [e0] at he2
    exact r_iretW dL_trySetting_9 (gEndW_s he2 (Nat.le_refl _) (Nat.le_refl _)) gYs_u
abbrev rmL_tryCome : Room := { frames := 9, cells := 1, slots := 6, locals := 166 }
theorem cd_L_tryCome : Cond.codeWith yL_tryCome cL_tryCome 4 (some .int) [(0, 6, 7, 13), (0, 6, 11, 16), (0, 6, 15, 35)] ∈ gG := gG_mem (List.mem_of_getElem? (i := 700) (by decide +kernel)) rfl
theorem nm_L_tryCome : gNm yL_tryCome 3 := by unfold gNm; decide +kernel
def fL_tryCome (a0 : Nat) (p1 : Int32) (p2 : Int32) (m : gM) : Option (gM × Int32) := gTry [1, 2, 3] (fX5_customer a0 p1 p2 m)
set_option maxHeartbeats 4000000 in
set_option maxRecDepth 100000 in
theorem tL_tryCome (l : Launch) (hlt : l.stackTraces = false) (G : gX) (u : gU) (hF : gFull u) (a0 : Nat) (p1 : Int32) (p2 : Int32) (m : gM) (o : gM × Int32) (h : fL_tryCome a0 p1 p2 m = some o) (h0 : gIn u a0 4 0) : gMetW l G u u yL_tryCome (.codeWith yL_tryCome cL_tryCome 4 (some .int) [(0, 6, 7, 13), (0, 6, 11, 16), (0, 6, 15, 35)]) rmL_tryCome [.ref a0, .int p1, .int p2] m o.1 (some (.int o.2)) := by
  obtain ⟨q, hq, ⟨hz, rfl⟩ | ⟨hz, he, rfl⟩⟩ := gTry_some h
  · refine gMetW_of (own := RL) (k := 1) (by decide) rfl ⟨rfl, rfl⟩ (Nat.le_of_ble_eq_true rfl) [some (.ref a0), some (.int p1), some (.int p2), none] rfl (fun Y hG hu hnL hLn hRm hCs he2 => ?_)
    subst hG hu hLn
    refine r_aload_n (pc := 0) dL_tryCome_0 rfl rfl ?_
    refine r_iload_n (pc := 1) dL_tryCome_1 rfl rfl ?_
    refine r_iload_n (pc := 2) dL_tryCome_2 rfl rfl ?_
    refine r_callV (kd := 4) (pc := 3) [.int _, .int _] (tX5_customer _ _ _ hF _ _ _ _ _ hq hz h0) ⟨rfl, rfl⟩ cd_X5_customer wL_65 nm_X5_customer rfl (by rw [hRm]; decide) rfl (Nat.le_of_ble_eq_true rfl) rfl (by decide) h0 dL_tryCome_3 ?_
    exact r_iretW dL_tryCome_6 he2 rfl
  · refine gMetW_of (own := RL) (k := 1) (by decide) rfl ⟨rfl, rfl⟩ (Nat.le_of_ble_eq_true rfl) [some (.ref a0), some (.int p1), some (.int p2), none] rfl (fun Y hG hu hnL hLn hRm hCs he2 => ?_)
    subst hG hu hLn
    rcases gE3 he with e0 | e1 | e2
    · refine r_aload_n (pc := 0) dL_tryCome_0 rfl rfl ?_
      refine r_iload_n (pc := 1) dL_tryCome_1 rfl rfl ?_
      refine r_iload_n (pc := 2) dL_tryCome_2 rfl rfl ?_
      refine r_callVC (kd := 4) (pc := 3) (hp := 7) (hp1 := 8) [.int _, .int _] (tX5_customerT _ hlt _ _ hF _ _ _ _ _ hq hz h0) ⟨rfl, rfl⟩ cd_X5_customer wL_65 nm_X5_customer rfl (by rw [hRm]; decide) rfl (Nat.le_of_ble_eq_true rfl) rfl (by decide) h0 dL_tryCome_3 he2 hCs 0 (by decide) (by rw [e0]; rfl) [] (0, 6, 7, 13) [(0, 6, 11, 16), (0, 6, 15, 35)] rfl (by decide) rfl (by decide) (fun _ hz => nomatch hz) (by rw [e0]; exact clL_13) (by rw [e0]; exact caL_1) (Or.inl ⟨3, 3, dL_tryCome_7, rfl, by rw [hnL]; decide, rfl⟩) ?_
      refine r_ldc (own := RL) (pc := 8) (v := (-9999001)) dL_tryCome_8 cL_15 ?_
      rw [e0] at he2
      exact r_iretW dL_tryCome_10 (gEndW_s he2 (Nat.le_refl _) (Nat.le_refl _)) gYs_u
    · refine r_aload_n (pc := 0) dL_tryCome_0 rfl rfl ?_
      refine r_iload_n (pc := 1) dL_tryCome_1 rfl rfl ?_
      refine r_iload_n (pc := 2) dL_tryCome_2 rfl rfl ?_
      refine r_callVC (kd := 4) (pc := 3) (hp := 11) (hp1 := 12) [.int _, .int _] (tX5_customerT _ hlt _ _ hF _ _ _ _ _ hq hz h0) ⟨rfl, rfl⟩ cd_X5_customer wL_65 nm_X5_customer rfl (by rw [hRm]; decide) rfl (Nat.le_of_ble_eq_true rfl) rfl (by decide) h0 dL_tryCome_3 he2 hCs 1 (by decide) (by rw [e1]; rfl) [(0, 6, 7, 13)] (0, 6, 11, 16) [(0, 6, 15, 35)] rfl (by decide) rfl (by decide) (fun z hz => by rcases List.mem_singleton.mp hz with rfl; exact ⟨by decide, 0, by decide, by decide, clL_13⟩) (by rw [e1]; exact clL_16) (by rw [e1]; exact caL_2) (Or.inl ⟨3, 3, dL_tryCome_11, rfl, by rw [hnL]; decide, rfl⟩) ?_
      refine r_ldc (own := RL) (pc := 12) (v := (-9999002)) dL_tryCome_12 cL_18 ?_
      rw [e1] at he2
      exact r_iretW dL_tryCome_14 (gEndW_s he2 (Nat.le_refl _) (Nat.le_refl _)) gYs_u
    · refine r_aload_n (pc := 0) dL_tryCome_0 rfl rfl ?_
      refine r_iload_n (pc := 1) dL_tryCome_1 rfl rfl ?_
      refine r_iload_n (pc := 2) dL_tryCome_2 rfl rfl ?_
      refine r_callVC (kd := 4) (pc := 3) (hp := 15) (hp1 := 16) [.int _, .int _] (tX5_customerT _ hlt _ _ hF _ _ _ _ _ hq hz h0) ⟨rfl, rfl⟩ cd_X5_customer wL_65 nm_X5_customer rfl (by rw [hRm]; decide) rfl (Nat.le_of_ble_eq_true rfl) rfl (by decide) h0 dL_tryCome_3 he2 hCs 2 (by decide) (by rw [e2]; rfl) [(0, 6, 7, 13), (0, 6, 11, 16)] (0, 6, 15, 35) [] rfl (by decide) rfl (by decide) (fun z hz => by
        rcases List.mem_cons.mp hz with rfl | hz
        · exact ⟨by decide, 0, by decide, by decide, clL_13⟩
        · rcases List.mem_singleton.mp hz with rfl
          exact ⟨by decide, 1, by decide, by decide, clL_16⟩) (by rw [e2]; exact clL_35) (by rw [e2]; exact caL_3) (Or.inl ⟨3, 3, dL_tryCome_15, rfl, by rw [hnL]; decide, rfl⟩) ?_
      refine r_ldc (own := RL) (pc := 16) (v := (-9999003)) dL_tryCome_16 cL_37 ?_
      rw [e2] at he2
      exact r_iretW dL_tryCome_18 (gEndW_s he2 (Nat.le_refl _) (Nat.le_refl _)) gYs_u
abbrev rmL_tryChange : Room := { frames := 9, cells := 1, slots := 6, locals := 167 }
theorem cd_L_tryChange : Cond.codeWith yL_tryChange cL_tryChange 5 (some .int) [(0, 7, 8, 13), (0, 7, 13, 16)] ∈ gG := gG_mem (List.mem_of_getElem? (i := 730) (by decide +kernel)) rfl
theorem nm_L_tryChange : gNm yL_tryChange 4 := by unfold gNm; decide +kernel
def fL_tryChange (a0 : Nat) (p1 : Int32) (p2 : Int32) (p3 : Int32) (m : gM) : Option (gM × Int32) := gTry [1, 2] (fX5_change a0 p1 p2 p3 m)
set_option maxHeartbeats 4000000 in
set_option maxRecDepth 100000 in
theorem tL_tryChange (l : Launch) (hlt : l.stackTraces = false) (G : gX) (u : gU) (hF : gFull u) (a0 : Nat) (p1 : Int32) (p2 : Int32) (p3 : Int32) (m : gM) (o : gM × Int32) (h : fL_tryChange a0 p1 p2 p3 m = some o) (h0 : gIn u a0 4 0) : gMetW l G u u yL_tryChange (.codeWith yL_tryChange cL_tryChange 5 (some .int) [(0, 7, 8, 13), (0, 7, 13, 16)]) rmL_tryChange [.ref a0, .int p1, .int p2, .int p3] m o.1 (some (.int o.2)) := by
  obtain ⟨q, hq, ⟨hz, rfl⟩ | ⟨hz, he, rfl⟩⟩ := gTry_some h
  · refine gMetW_of (own := RL) (k := 1) (by decide) rfl ⟨rfl, rfl⟩ (Nat.le_of_ble_eq_true rfl) [some (.ref a0), some (.int p1), some (.int p2), some (.int p3), none] rfl (fun Y hG hu hnL hLn hRm hCs he2 => ?_)
    subst hG hu hLn
    refine r_aload_n (pc := 0) dL_tryChange_0 rfl rfl ?_
    refine r_iload_n (pc := 1) dL_tryChange_1 rfl rfl ?_
    refine r_iload_n (pc := 2) dL_tryChange_2 rfl rfl ?_
    refine r_iload_n (pc := 3) dL_tryChange_3 rfl rfl ?_
    refine r_callV (kd := 4) (pc := 4) [.int _, .int _, .int _] (tX5_change _ _ _ hF _ _ _ _ _ _ hq hz h0) ⟨rfl, rfl⟩ cd_X5_change wL_68 nm_X5_change rfl (by rw [hRm]; decide) rfl (Nat.le_of_ble_eq_true rfl) rfl (by decide) h0 dL_tryChange_4 ?_
    exact r_iretW dL_tryChange_7 he2 rfl
  · refine gMetW_of (own := RL) (k := 1) (by decide) rfl ⟨rfl, rfl⟩ (Nat.le_of_ble_eq_true rfl) [some (.ref a0), some (.int p1), some (.int p2), some (.int p3), none] rfl (fun Y hG hu hnL hLn hRm hCs he2 => ?_)
    subst hG hu hLn
    rcases gE2 he with e0 | e1
    · refine r_aload_n (pc := 0) dL_tryChange_0 rfl rfl ?_
      refine r_iload_n (pc := 1) dL_tryChange_1 rfl rfl ?_
      refine r_iload_n (pc := 2) dL_tryChange_2 rfl rfl ?_
      refine r_iload_n (pc := 3) dL_tryChange_3 rfl rfl ?_
      refine r_callVC (kd := 4) (pc := 4) (hp := 8) (hp1 := 10) [.int _, .int _, .int _] (tX5_changeT _ hlt _ _ hF _ _ _ _ _ _ hq hz h0) ⟨rfl, rfl⟩ cd_X5_change wL_68 nm_X5_change rfl (by rw [hRm]; decide) rfl (Nat.le_of_ble_eq_true rfl) rfl (by decide) h0 dL_tryChange_4 he2 hCs 0 (by decide) (by rw [e0]; rfl) [] (0, 7, 8, 13) [(0, 7, 13, 16)] rfl (by decide) rfl (by decide) (fun _ hz => nomatch hz) (by rw [e0]; exact clL_13) (by rw [e0]; exact caL_1) (Or.inr ⟨4, dL_tryChange_8, by rw [hnL]; decide, rfl⟩) ?_
      refine r_ldc (own := RL) (pc := 10) (v := (-9999001)) dL_tryChange_10 cL_15 ?_
      rw [e0] at he2
      exact r_iretW dL_tryChange_12 (gEndW_s he2 (Nat.le_refl _) (Nat.le_refl _)) gYs_u
    · refine r_aload_n (pc := 0) dL_tryChange_0 rfl rfl ?_
      refine r_iload_n (pc := 1) dL_tryChange_1 rfl rfl ?_
      refine r_iload_n (pc := 2) dL_tryChange_2 rfl rfl ?_
      refine r_iload_n (pc := 3) dL_tryChange_3 rfl rfl ?_
      refine r_callVC (kd := 4) (pc := 4) (hp := 13) (hp1 := 15) [.int _, .int _, .int _] (tX5_changeT _ hlt _ _ hF _ _ _ _ _ _ hq hz h0) ⟨rfl, rfl⟩ cd_X5_change wL_68 nm_X5_change rfl (by rw [hRm]; decide) rfl (Nat.le_of_ble_eq_true rfl) rfl (by decide) h0 dL_tryChange_4 he2 hCs 1 (by decide) (by rw [e1]; rfl) [(0, 7, 8, 13)] (0, 7, 13, 16) [] rfl (by decide) rfl (by decide) (fun z hz => by rcases List.mem_singleton.mp hz with rfl; exact ⟨by decide, 0, by decide, by decide, clL_13⟩) (by rw [e1]; exact clL_16) (by rw [e1]; exact caL_2) (Or.inr ⟨4, dL_tryChange_13, by rw [hnL]; decide, rfl⟩) ?_
      refine r_ldc (own := RL) (pc := 15) (v := (-9999002)) dL_tryChange_15 cL_18 ?_
      rw [e1] at he2
      exact r_iretW dL_tryChange_17 (gEndW_s he2 (Nat.le_refl _) (Nat.le_refl _)) gYs_u
abbrev rmL_tryHoliday : Room := { frames := 9, cells := 1, slots := 6, locals := 167 }
theorem cd_L_tryHoliday : Cond.codeWith yL_tryHoliday cL_tryHoliday 5 (some .int) [(0, 7, 8, 13), (0, 7, 13, 16), (0, 7, 18, 35)] ∈ gG := gG_mem (List.mem_of_getElem? (i := 737) (by decide +kernel)) rfl
theorem nm_L_tryHoliday : gNm yL_tryHoliday 4 := by unfold gNm; decide +kernel
def fL_tryHoliday (a0 : Nat) (p1 : Int32) (p2 : Int32) (p3 : Int32) (m : gM) : Option (gM × Int32) := gTry [1, 2, 3] (fX5_holiday a0 p1 p2 p3 m)
set_option maxHeartbeats 4000000 in
set_option maxRecDepth 100000 in
theorem tL_tryHoliday (l : Launch) (hlt : l.stackTraces = false) (G : gX) (u : gU) (hF : gFull u) (a0 : Nat) (p1 : Int32) (p2 : Int32) (p3 : Int32) (m : gM) (o : gM × Int32) (h : fL_tryHoliday a0 p1 p2 p3 m = some o) (h0 : gIn u a0 4 0) : gMetW l G u u yL_tryHoliday (.codeWith yL_tryHoliday cL_tryHoliday 5 (some .int) [(0, 7, 8, 13), (0, 7, 13, 16), (0, 7, 18, 35)]) rmL_tryHoliday [.ref a0, .int p1, .int p2, .int p3] m o.1 (some (.int o.2)) := by
  obtain ⟨q, hq, ⟨hz, rfl⟩ | ⟨hz, he, rfl⟩⟩ := gTry_some h
  · refine gMetW_of (own := RL) (k := 1) (by decide) rfl ⟨rfl, rfl⟩ (Nat.le_of_ble_eq_true rfl) [some (.ref a0), some (.int p1), some (.int p2), some (.int p3), none] rfl (fun Y hG hu hnL hLn hRm hCs he2 => ?_)
    subst hG hu hLn
    refine r_aload_n (pc := 0) dL_tryHoliday_0 rfl rfl ?_
    refine r_iload_n (pc := 1) dL_tryHoliday_1 rfl rfl ?_
    refine r_iload_n (pc := 2) dL_tryHoliday_2 rfl rfl ?_
    refine r_iload_n (pc := 3) dL_tryHoliday_3 rfl rfl ?_
    refine r_callV (kd := 4) (pc := 4) [.int _, .int _, .int _] (tX5_holiday _ _ _ hF _ _ _ _ _ _ hq hz h0) ⟨rfl, rfl⟩ cd_X5_holiday wL_71 nm_X5_holiday rfl (by rw [hRm]; decide) rfl (Nat.le_of_ble_eq_true rfl) rfl (by decide) h0 dL_tryHoliday_4 ?_
    exact r_iretW dL_tryHoliday_7 he2 rfl
  · refine gMetW_of (own := RL) (k := 1) (by decide) rfl ⟨rfl, rfl⟩ (Nat.le_of_ble_eq_true rfl) [some (.ref a0), some (.int p1), some (.int p2), some (.int p3), none] rfl (fun Y hG hu hnL hLn hRm hCs he2 => ?_)
    subst hG hu hLn
    rcases gE3 he with e0 | e1 | e2
    · refine r_aload_n (pc := 0) dL_tryHoliday_0 rfl rfl ?_
      refine r_iload_n (pc := 1) dL_tryHoliday_1 rfl rfl ?_
      refine r_iload_n (pc := 2) dL_tryHoliday_2 rfl rfl ?_
      refine r_iload_n (pc := 3) dL_tryHoliday_3 rfl rfl ?_
      refine r_callVC (kd := 4) (pc := 4) (hp := 8) (hp1 := 10) [.int _, .int _, .int _] (tX5_holidayT _ hlt _ _ hF _ _ _ _ _ _ hq hz h0) ⟨rfl, rfl⟩ cd_X5_holiday wL_71 nm_X5_holiday rfl (by rw [hRm]; decide) rfl (Nat.le_of_ble_eq_true rfl) rfl (by decide) h0 dL_tryHoliday_4 he2 hCs 0 (by decide) (by rw [e0]; rfl) [] (0, 7, 8, 13) [(0, 7, 13, 16), (0, 7, 18, 35)] rfl (by decide) rfl (by decide) (fun _ hz => nomatch hz) (by rw [e0]; exact clL_13) (by rw [e0]; exact caL_1) (Or.inr ⟨4, dL_tryHoliday_8, by rw [hnL]; decide, rfl⟩) ?_
      refine r_ldc (own := RL) (pc := 10) (v := (-9999001)) dL_tryHoliday_10 cL_15 ?_
      rw [e0] at he2
      exact r_iretW dL_tryHoliday_12 (gEndW_s he2 (Nat.le_refl _) (Nat.le_refl _)) gYs_u
    · refine r_aload_n (pc := 0) dL_tryHoliday_0 rfl rfl ?_
      refine r_iload_n (pc := 1) dL_tryHoliday_1 rfl rfl ?_
      refine r_iload_n (pc := 2) dL_tryHoliday_2 rfl rfl ?_
      refine r_iload_n (pc := 3) dL_tryHoliday_3 rfl rfl ?_
      refine r_callVC (kd := 4) (pc := 4) (hp := 13) (hp1 := 15) [.int _, .int _, .int _] (tX5_holidayT _ hlt _ _ hF _ _ _ _ _ _ hq hz h0) ⟨rfl, rfl⟩ cd_X5_holiday wL_71 nm_X5_holiday rfl (by rw [hRm]; decide) rfl (Nat.le_of_ble_eq_true rfl) rfl (by decide) h0 dL_tryHoliday_4 he2 hCs 1 (by decide) (by rw [e1]; rfl) [(0, 7, 8, 13)] (0, 7, 13, 16) [(0, 7, 18, 35)] rfl (by decide) rfl (by decide) (fun z hz => by rcases List.mem_singleton.mp hz with rfl; exact ⟨by decide, 0, by decide, by decide, clL_13⟩) (by rw [e1]; exact clL_16) (by rw [e1]; exact caL_2) (Or.inr ⟨4, dL_tryHoliday_13, by rw [hnL]; decide, rfl⟩) ?_
      refine r_ldc (own := RL) (pc := 15) (v := (-9999002)) dL_tryHoliday_15 cL_18 ?_
      rw [e1] at he2
      exact r_iretW dL_tryHoliday_17 (gEndW_s he2 (Nat.le_refl _) (Nat.le_refl _)) gYs_u
    · refine r_aload_n (pc := 0) dL_tryHoliday_0 rfl rfl ?_
      refine r_iload_n (pc := 1) dL_tryHoliday_1 rfl rfl ?_
      refine r_iload_n (pc := 2) dL_tryHoliday_2 rfl rfl ?_
      refine r_iload_n (pc := 3) dL_tryHoliday_3 rfl rfl ?_
      refine r_callVC (kd := 4) (pc := 4) (hp := 18) (hp1 := 20) [.int _, .int _, .int _] (tX5_holidayT _ hlt _ _ hF _ _ _ _ _ _ hq hz h0) ⟨rfl, rfl⟩ cd_X5_holiday wL_71 nm_X5_holiday rfl (by rw [hRm]; decide) rfl (Nat.le_of_ble_eq_true rfl) rfl (by decide) h0 dL_tryHoliday_4 he2 hCs 2 (by decide) (by rw [e2]; rfl) [(0, 7, 8, 13), (0, 7, 13, 16)] (0, 7, 18, 35) [] rfl (by decide) rfl (by decide) (fun z hz => by
        rcases List.mem_cons.mp hz with rfl | hz
        · exact ⟨by decide, 0, by decide, by decide, clL_13⟩
        · rcases List.mem_singleton.mp hz with rfl
          exact ⟨by decide, 1, by decide, by decide, clL_16⟩) (by rw [e2]; exact clL_35) (by rw [e2]; exact caL_3) (Or.inr ⟨4, dL_tryHoliday_18, by rw [hnL]; decide, rfl⟩) ?_
      refine r_ldc (own := RL) (pc := 20) (v := (-9999003)) dL_tryHoliday_20 cL_37 ?_
      rw [e2] at he2
      exact r_iretW dL_tryHoliday_22 (gEndW_s he2 (Nat.le_refl _) (Nat.le_refl _)) gYs_u
abbrev rmL_tryDrop : Room := { frames := 9, cells := 1, slots := 6, locals := 166 }
theorem cd_L_tryDrop : Cond.codeWith yL_tryDrop cL_tryDrop 4 (some .int) [(0, 6, 7, 13)] ∈ gG := gG_mem (List.mem_of_getElem? (i := 744) (by decide +kernel)) rfl
theorem nm_L_tryDrop : gNm yL_tryDrop 3 := by unfold gNm; decide +kernel
def fL_tryDrop (a0 : Nat) (p1 : Int32) (p2 : Int32) (m : gM) : Option (gM × Int32) := gTry [1] (fX5_drop a0 p1 p2 m)
set_option maxHeartbeats 4000000 in
set_option maxRecDepth 100000 in
theorem tL_tryDrop (l : Launch) (hlt : l.stackTraces = false) (G : gX) (u : gU) (hF : gFull u) (a0 : Nat) (p1 : Int32) (p2 : Int32) (m : gM) (o : gM × Int32) (h : fL_tryDrop a0 p1 p2 m = some o) (h0 : gIn u a0 4 0) : gMetW l G u u yL_tryDrop (.codeWith yL_tryDrop cL_tryDrop 4 (some .int) [(0, 6, 7, 13)]) rmL_tryDrop [.ref a0, .int p1, .int p2] m o.1 (some (.int o.2)) := by
  obtain ⟨q, hq, ⟨hz, rfl⟩ | ⟨hz, he, rfl⟩⟩ := gTry_some h
  · refine gMetW_of (own := RL) (k := 1) (by decide) rfl ⟨rfl, rfl⟩ (Nat.le_of_ble_eq_true rfl) [some (.ref a0), some (.int p1), some (.int p2), none] rfl (fun Y hG hu hnL hLn hRm hCs he2 => ?_)
    subst hG hu hLn
    refine r_aload_n (pc := 0) dL_tryDrop_0 rfl rfl ?_
    refine r_iload_n (pc := 1) dL_tryDrop_1 rfl rfl ?_
    refine r_iload_n (pc := 2) dL_tryDrop_2 rfl rfl ?_
    refine r_callV (kd := 4) (pc := 3) [.int _, .int _] (tX5_drop _ _ _ hF _ _ _ _ _ hq hz h0) ⟨rfl, rfl⟩ cd_X5_drop wL_74 nm_X5_drop rfl (by rw [hRm]; decide) rfl (Nat.le_of_ble_eq_true rfl) rfl (by decide) h0 dL_tryDrop_3 ?_
    exact r_iretW dL_tryDrop_6 he2 rfl
  · refine gMetW_of (own := RL) (k := 1) (by decide) rfl ⟨rfl, rfl⟩ (Nat.le_of_ble_eq_true rfl) [some (.ref a0), some (.int p1), some (.int p2), none] rfl (fun Y hG hu hnL hLn hRm hCs he2 => ?_)
    subst hG hu hLn
    have e0 := gE1 he
    refine r_aload_n (pc := 0) dL_tryDrop_0 rfl rfl ?_
    refine r_iload_n (pc := 1) dL_tryDrop_1 rfl rfl ?_
    refine r_iload_n (pc := 2) dL_tryDrop_2 rfl rfl ?_
    refine r_callVC (kd := 4) (pc := 3) (hp := 7) (hp1 := 8) [.int _, .int _] (tX5_dropT _ hlt _ _ hF _ _ _ _ _ hq hz h0) ⟨rfl, rfl⟩ cd_X5_drop wL_74 nm_X5_drop rfl (by rw [hRm]; decide) rfl (Nat.le_of_ble_eq_true rfl) rfl (by decide) h0 dL_tryDrop_3 he2 hCs 0 (by decide) (by rw [e0]; rfl) [] (0, 6, 7, 13) [] rfl (by decide) rfl (by decide) (fun _ hz => nomatch hz) (by rw [e0]; exact clL_13) (by rw [e0]; exact caL_1) (Or.inl ⟨3, 3, dL_tryDrop_7, rfl, by rw [hnL]; decide, rfl⟩) ?_
    refine r_ldc (own := RL) (pc := 8) (v := (-9999001)) dL_tryDrop_8 cL_15 ?_
    rw [e0] at he2
    exact r_iretW dL_tryDrop_10 (gEndW_s he2 (Nat.le_refl _) (Nat.le_refl _)) gYs_u
abbrev rmL_trySwap : Room := { frames := 9, cells := 1, slots := 6, locals := 166 }
theorem cd_L_trySwap : Cond.codeWith yL_trySwap cL_trySwap 4 (some .int) [(0, 6, 7, 13)] ∈ gG := gG_mem (List.mem_of_getElem? (i := 751) (by decide +kernel)) rfl
theorem nm_L_trySwap : gNm yL_trySwap 3 := by unfold gNm; decide +kernel
def fL_trySwap (a0 : Nat) (p1 : Int32) (p2 : Int32) (m : gM) : Option (gM × Int32) := gTry [1] (fX5_swap a0 p1 p2 m)
set_option maxHeartbeats 4000000 in
set_option maxRecDepth 100000 in
theorem tL_trySwap (l : Launch) (hlt : l.stackTraces = false) (G : gX) (u : gU) (hF : gFull u) (a0 : Nat) (p1 : Int32) (p2 : Int32) (m : gM) (o : gM × Int32) (h : fL_trySwap a0 p1 p2 m = some o) (h0 : gIn u a0 4 0) : gMetW l G u u yL_trySwap (.codeWith yL_trySwap cL_trySwap 4 (some .int) [(0, 6, 7, 13)]) rmL_trySwap [.ref a0, .int p1, .int p2] m o.1 (some (.int o.2)) := by
  obtain ⟨q, hq, ⟨hz, rfl⟩ | ⟨hz, he, rfl⟩⟩ := gTry_some h
  · refine gMetW_of (own := RL) (k := 1) (by decide) rfl ⟨rfl, rfl⟩ (Nat.le_of_ble_eq_true rfl) [some (.ref a0), some (.int p1), some (.int p2), none] rfl (fun Y hG hu hnL hLn hRm hCs he2 => ?_)
    subst hG hu hLn
    refine r_aload_n (pc := 0) dL_trySwap_0 rfl rfl ?_
    refine r_iload_n (pc := 1) dL_trySwap_1 rfl rfl ?_
    refine r_iload_n (pc := 2) dL_trySwap_2 rfl rfl ?_
    refine r_callV (kd := 4) (pc := 3) [.int _, .int _] (tX5_swap _ _ _ hF _ _ _ _ _ hq hz h0) ⟨rfl, rfl⟩ cd_X5_swap wL_77 nm_X5_swap rfl (by rw [hRm]; decide) rfl (Nat.le_of_ble_eq_true rfl) rfl (by decide) h0 dL_trySwap_3 ?_
    exact r_iretW dL_trySwap_6 he2 rfl
  · refine gMetW_of (own := RL) (k := 1) (by decide) rfl ⟨rfl, rfl⟩ (Nat.le_of_ble_eq_true rfl) [some (.ref a0), some (.int p1), some (.int p2), none] rfl (fun Y hG hu hnL hLn hRm hCs he2 => ?_)
    subst hG hu hLn
    have e0 := gE1 he
    refine r_aload_n (pc := 0) dL_trySwap_0 rfl rfl ?_
    refine r_iload_n (pc := 1) dL_trySwap_1 rfl rfl ?_
    refine r_iload_n (pc := 2) dL_trySwap_2 rfl rfl ?_
    refine r_callVC (kd := 4) (pc := 3) (hp := 7) (hp1 := 8) [.int _, .int _] (tX5_swapT _ hlt _ _ hF _ _ _ _ _ hq hz h0) ⟨rfl, rfl⟩ cd_X5_swap wL_77 nm_X5_swap rfl (by rw [hRm]; decide) rfl (Nat.le_of_ble_eq_true rfl) rfl (by decide) h0 dL_trySwap_3 he2 hCs 0 (by decide) (by rw [e0]; rfl) [] (0, 6, 7, 13) [] rfl (by decide) rfl (by decide) (fun _ hz => nomatch hz) (by rw [e0]; exact clL_13) (by rw [e0]; exact caL_1) (Or.inl ⟨3, 3, dL_trySwap_7, rfl, by rw [hnL]; decide, rfl⟩) ?_
    refine r_ldc (own := RL) (pc := 8) (v := (-9999001)) dL_trySwap_8 cL_15 ?_
    rw [e0] at he2
    exact r_iretW dL_trySwap_10 (gEndW_s he2 (Nat.le_refl _) (Nat.le_refl _)) gYs_u
abbrev rmL_tryLay : Room := { frames := 9, cells := 1, slots := 6, locals := 166 }
theorem cd_L_tryLay : Cond.codeWith yL_tryLay cL_tryLay 4 (some .int) [(0, 6, 7, 16)] ∈ gG := gG_mem (List.mem_of_getElem? (i := 758) (by decide +kernel)) rfl
theorem nm_L_tryLay : gNm yL_tryLay 3 := by unfold gNm; decide +kernel
def fL_tryLay (a0 : Nat) (p1 : Int32) (p2 : Int32) (m : gM) : Option (gM × Int32) := gTry [2] (fX5_set a0 p1 p2 m)
set_option maxHeartbeats 4000000 in
set_option maxRecDepth 100000 in
theorem tL_tryLay (l : Launch) (hlt : l.stackTraces = false) (G : gX) (u : gU) (hF : gFull u) (a0 : Nat) (p1 : Int32) (p2 : Int32) (m : gM) (o : gM × Int32) (h : fL_tryLay a0 p1 p2 m = some o) (h0 : gIn u a0 4 0) : gMetW l G u u yL_tryLay (.codeWith yL_tryLay cL_tryLay 4 (some .int) [(0, 6, 7, 16)]) rmL_tryLay [.ref a0, .int p1, .int p2] m o.1 (some (.int o.2)) := by
  obtain ⟨q, hq, ⟨hz, rfl⟩ | ⟨hz, he, rfl⟩⟩ := gTry_some h
  · refine gMetW_of (own := RL) (k := 1) (by decide) rfl ⟨rfl, rfl⟩ (Nat.le_of_ble_eq_true rfl) [some (.ref a0), some (.int p1), some (.int p2), none] rfl (fun Y hG hu hnL hLn hRm hCs he2 => ?_)
    subst hG hu hLn
    refine r_aload_n (pc := 0) dL_tryLay_0 rfl rfl ?_
    refine r_iload_n (pc := 1) dL_tryLay_1 rfl rfl ?_
    refine r_iload_n (pc := 2) dL_tryLay_2 rfl rfl ?_
    refine r_callV (kd := 4) (pc := 3) [.int _, .int _] (tX5_set _ _ _ hF _ _ _ _ _ hq hz h0) ⟨rfl, rfl⟩ cd_X5_set wL_80 nm_X5_set rfl (by rw [hRm]; decide) rfl (Nat.le_of_ble_eq_true rfl) rfl (by decide) h0 dL_tryLay_3 ?_
    exact r_iretW dL_tryLay_6 he2 rfl
  · refine gMetW_of (own := RL) (k := 1) (by decide) rfl ⟨rfl, rfl⟩ (Nat.le_of_ble_eq_true rfl) [some (.ref a0), some (.int p1), some (.int p2), none] rfl (fun Y hG hu hnL hLn hRm hCs he2 => ?_)
    subst hG hu hLn
    have e0 := gE1 he
    refine r_aload_n (pc := 0) dL_tryLay_0 rfl rfl ?_
    refine r_iload_n (pc := 1) dL_tryLay_1 rfl rfl ?_
    refine r_iload_n (pc := 2) dL_tryLay_2 rfl rfl ?_
    refine r_callVC (kd := 4) (pc := 3) (hp := 7) (hp1 := 8) [.int _, .int _] (tX5_setT _ hlt _ _ hF _ _ _ _ _ hq hz h0) ⟨rfl, rfl⟩ cd_X5_set wL_80 nm_X5_set rfl (by rw [hRm]; decide) rfl (Nat.le_of_ble_eq_true rfl) rfl (by decide) h0 dL_tryLay_3 he2 hCs 1 (by decide) (by rw [e0]; rfl) [] (0, 6, 7, 16) [] rfl (by decide) rfl (by decide) (fun _ hz => nomatch hz) (by rw [e0]; exact clL_16) (by rw [e0]; exact caL_2) (Or.inl ⟨3, 3, dL_tryLay_7, rfl, by rw [hnL]; decide, rfl⟩) ?_
    refine r_ldc (own := RL) (pc := 8) (v := (-9999002)) dL_tryLay_8 cL_18 ?_
    rw [e0] at he2
    exact r_iretW dL_tryLay_10 (gEndW_s he2 (Nat.le_refl _) (Nat.le_refl _)) gYs_u
abbrev rmL_tryDays : Room := { frames := 9, cells := 1, slots := 6, locals := 165 }
theorem cd_L_tryDays : Cond.codeWith yL_tryDays cL_tryDays 3 (some .int) [(0, 5, 6, 16)] ∈ gG := gG_mem (List.mem_of_getElem? (i := 765) (by decide +kernel)) rfl
theorem nm_L_tryDays : gNm yL_tryDays 2 := by unfold gNm; decide +kernel
def fL_tryDays (a0 : Nat) (p1 : Int32) (m : gM) : Option (gM × Int32) := gTry [2] (fX5_days a0 p1 m)
set_option maxHeartbeats 4000000 in
set_option maxRecDepth 100000 in
theorem tL_tryDays (l : Launch) (hlt : l.stackTraces = false) (G : gX) (u : gU) (hF : gFull u) (a0 : Nat) (p1 : Int32) (m : gM) (o : gM × Int32) (h : fL_tryDays a0 p1 m = some o) (h0 : gIn u a0 4 0) : gMetW l G u u yL_tryDays (.codeWith yL_tryDays cL_tryDays 3 (some .int) [(0, 5, 6, 16)]) rmL_tryDays [.ref a0, .int p1] m o.1 (some (.int o.2)) := by
  obtain ⟨q, hq, ⟨hz, rfl⟩ | ⟨hz, he, rfl⟩⟩ := gTry_some h
  · refine gMetW_of (own := RL) (k := 1) (by decide) rfl ⟨rfl, rfl⟩ (Nat.le_of_ble_eq_true rfl) [some (.ref a0), some (.int p1), none] rfl (fun Y hG hu hnL hLn hRm hCs he2 => ?_)
    subst hG hu hLn
    refine r_aload_n (pc := 0) dL_tryDays_0 rfl rfl ?_
    refine r_iload_n (pc := 1) dL_tryDays_1 rfl rfl ?_
    refine r_callV (kd := 4) (pc := 2) [.int _] (tX5_days _ _ _ hF _ _ _ _ hq hz h0) ⟨rfl, rfl⟩ cd_X5_days wL_83 nm_X5_days rfl (by rw [hRm]; decide) rfl (Nat.le_of_ble_eq_true rfl) rfl (by decide) h0 dL_tryDays_2 ?_
    exact r_iretW dL_tryDays_5 he2 rfl
  · refine gMetW_of (own := RL) (k := 1) (by decide) rfl ⟨rfl, rfl⟩ (Nat.le_of_ble_eq_true rfl) [some (.ref a0), some (.int p1), none] rfl (fun Y hG hu hnL hLn hRm hCs he2 => ?_)
    subst hG hu hLn
    have e0 := gE1 he
    refine r_aload_n (pc := 0) dL_tryDays_0 rfl rfl ?_
    refine r_iload_n (pc := 1) dL_tryDays_1 rfl rfl ?_
    refine r_callVC (kd := 4) (pc := 2) (hp := 6) (hp1 := 7) [.int _] (tX5_daysT _ hlt _ _ hF _ _ _ _ hq hz h0) ⟨rfl, rfl⟩ cd_X5_days wL_83 nm_X5_days rfl (by rw [hRm]; decide) rfl (Nat.le_of_ble_eq_true rfl) rfl (by decide) h0 dL_tryDays_2 he2 hCs 1 (by decide) (by rw [e0]; rfl) [] (0, 5, 6, 16) [] rfl (by decide) rfl (by decide) (fun _ hz => nomatch hz) (by rw [e0]; exact clL_16) (by rw [e0]; exact caL_2) (Or.inl ⟨2, 2, dL_tryDays_6, rfl, by rw [hnL]; decide, rfl⟩) ?_
    refine r_ldc (own := RL) (pc := 7) (v := (-9999002)) dL_tryDays_7 cL_18 ?_
    rw [e0] at he2
    exact r_iretW dL_tryDays_9 (gEndW_s he2 (Nat.le_refl _) (Nat.le_refl _)) gYs_u
abbrev rmL_tryUndo : Room := { frames := 8, cells := 1, slots := 6, locals := 124 }
theorem cd_L_tryUndo : Cond.codeWith yL_tryUndo cL_tryUndo 2 (some .int) [(0, 4, 5, 35)] ∈ gG := gG_mem (List.mem_of_getElem? (i := 772) (by decide +kernel)) rfl
theorem nm_L_tryUndo : gNm yL_tryUndo 1 := by unfold gNm; decide +kernel
def fL_tryUndo (a0 : Nat)  (m : gM) : Option (gM × Int32) := gTry [3] (fX5_undo a0  m)
set_option maxHeartbeats 4000000 in
set_option maxRecDepth 100000 in
theorem tL_tryUndo (l : Launch) (hlt : l.stackTraces = false) (G : gX) (u : gU) (hF : gFull u) (a0 : Nat)  (m : gM) (o : gM × Int32) (h : fL_tryUndo a0  m = some o) (h0 : gIn u a0 4 0) : gMetW l G u u yL_tryUndo (.codeWith yL_tryUndo cL_tryUndo 2 (some .int) [(0, 4, 5, 35)]) rmL_tryUndo [.ref a0] m o.1 (some (.int o.2)) := by
  obtain ⟨q, hq, ⟨hz, rfl⟩ | ⟨hz, he, rfl⟩⟩ := gTry_some h
  · refine gMetW_of (own := RL) (k := 1) (by decide) rfl ⟨rfl, rfl⟩ (Nat.le_of_ble_eq_true rfl) [some (.ref a0), none] rfl (fun Y hG hu hnL hLn hRm hCs he2 => ?_)
    subst hG hu hLn
    refine r_aload_n (pc := 0) dL_tryUndo_0 rfl rfl ?_
    refine r_callV (kd := 4) (pc := 1) [] (tX5_undo _ _ _ hF _  _ _ hq hz h0) ⟨rfl, rfl⟩ cd_X5_undo wL_86 nm_X5_undo rfl (by rw [hRm]; decide) rfl (Nat.le_of_ble_eq_true rfl) rfl (by decide) h0 dL_tryUndo_1 ?_
    exact r_iretW dL_tryUndo_4 he2 rfl
  · refine gMetW_of (own := RL) (k := 1) (by decide) rfl ⟨rfl, rfl⟩ (Nat.le_of_ble_eq_true rfl) [some (.ref a0), none] rfl (fun Y hG hu hnL hLn hRm hCs he2 => ?_)
    subst hG hu hLn
    have e0 := gE1 he
    refine r_aload_n (pc := 0) dL_tryUndo_0 rfl rfl ?_
    refine r_callVC (kd := 4) (pc := 1) (hp := 5) (hp1 := 6) [] (tX5_undoT _ hlt _ _ hF _  _ _ hq hz h0) ⟨rfl, rfl⟩ cd_X5_undo wL_86 nm_X5_undo rfl (by rw [hRm]; decide) rfl (Nat.le_of_ble_eq_true rfl) rfl (by decide) h0 dL_tryUndo_1 he2 hCs 2 (by decide) (by rw [e0]; rfl) [] (0, 4, 5, 35) [] rfl (by decide) rfl (by decide) (fun _ hz => nomatch hz) (by rw [e0]; exact clL_35) (by rw [e0]; exact caL_3) (Or.inl ⟨1, 1, dL_tryUndo_5, rfl, by rw [hnL]; decide, rfl⟩) ?_
    refine r_ldc (own := RL) (pc := 6) (v := (-9999003)) dL_tryUndo_6 cL_37 ?_
    rw [e0] at he2
    exact r_iretW dL_tryUndo_8 (gEndW_s he2 (Nat.le_refl _) (Nat.le_refl _)) gYs_u
abbrev rmL_tryWhy : Room := { frames := 8, cells := 1, slots := 6, locals := 134 }
theorem cd_L_tryWhy : Cond.codeWith yL_tryWhy cL_tryWhy 3 (some .int) [(0, 5, 6, 13)] ∈ gG := gG_mem (List.mem_of_getElem? (i := 783) (by decide +kernel)) rfl
theorem nm_L_tryWhy : gNm yL_tryWhy 2 := by unfold gNm; decide +kernel
def fL_tryWhy (a0 : Nat) (p1 : Int32) (m : gM) : Option (gM × Int32) := gTry [1] (fX5_why a0 p1 m)
set_option maxHeartbeats 4000000 in
set_option maxRecDepth 100000 in
theorem tL_tryWhy (l : Launch) (hlt : l.stackTraces = false) (G : gX) (u : gU) (hF : gFull u) (a0 : Nat) (p1 : Int32) (m : gM) (o : gM × Int32) (h : fL_tryWhy a0 p1 m = some o) (h0 : gIn u a0 4 0) : gMetW l G u u yL_tryWhy (.codeWith yL_tryWhy cL_tryWhy 3 (some .int) [(0, 5, 6, 13)]) rmL_tryWhy [.ref a0, .int p1] m o.1 (some (.int o.2)) := by
  obtain ⟨q, hq, ⟨hz, rfl⟩ | ⟨hz, he, rfl⟩⟩ := gTry_some h
  · refine gMetW_of (own := RL) (k := 1) (by decide) rfl ⟨rfl, rfl⟩ (Nat.le_of_ble_eq_true rfl) [some (.ref a0), some (.int p1), none] rfl (fun Y hG hu hnL hLn hRm hCs he2 => ?_)
    subst hG hu hLn
    refine r_aload_n (pc := 0) dL_tryWhy_0 rfl rfl ?_
    refine r_iload_n (pc := 1) dL_tryWhy_1 rfl rfl ?_
    refine r_callV (kd := 4) (pc := 2) [.int _] (tX5_why _ _ _ hF _ _ _ _ hq hz h0) ⟨rfl, rfl⟩ cd_X5_why wL_89 nm_X5_why rfl (by rw [hRm]; decide) rfl (Nat.le_of_ble_eq_true rfl) rfl (by decide) h0 dL_tryWhy_2 ?_
    exact r_iretW dL_tryWhy_5 he2 rfl
  · refine gMetW_of (own := RL) (k := 1) (by decide) rfl ⟨rfl, rfl⟩ (Nat.le_of_ble_eq_true rfl) [some (.ref a0), some (.int p1), none] rfl (fun Y hG hu hnL hLn hRm hCs he2 => ?_)
    subst hG hu hLn
    have e0 := gE1 he
    refine r_aload_n (pc := 0) dL_tryWhy_0 rfl rfl ?_
    refine r_iload_n (pc := 1) dL_tryWhy_1 rfl rfl ?_
    refine r_callVC (kd := 4) (pc := 2) (hp := 6) (hp1 := 7) [.int _] (tX5_whyT _ hlt _ _ hF _ _ _ _ hq hz h0) ⟨rfl, rfl⟩ cd_X5_why wL_89 nm_X5_why rfl (by rw [hRm]; decide) rfl (Nat.le_of_ble_eq_true rfl) rfl (by decide) h0 dL_tryWhy_2 he2 hCs 0 (by decide) (by rw [e0]; rfl) [] (0, 5, 6, 13) [] rfl (by decide) rfl (by decide) (fun _ hz => nomatch hz) (by rw [e0]; exact clL_13) (by rw [e0]; exact caL_1) (Or.inl ⟨2, 2, dL_tryWhy_6, rfl, by rw [hnL]; decide, rfl⟩) ?_
    refine r_ldc (own := RL) (pc := 7) (v := (-9999001)) dL_tryWhy_7 cL_15 ?_
    rw [e0] at he2
    exact r_iretW dL_tryWhy_9 (gEndW_s he2 (Nat.le_refl _) (Nat.le_refl _)) gYs_u
abbrev rmL_tryCredit : Room := { frames := 8, cells := 1, slots := 6, locals := 124 }
theorem cd_L_tryCredit : Cond.codeWith yL_tryCredit cL_tryCredit 4 (some .int) [(0, 6, 7, 13), (0, 6, 11, 16)] ∈ gG := gG_mem (List.mem_of_getElem? (i := 798) (by decide +kernel)) rfl
theorem nm_L_tryCredit : gNm yL_tryCredit 3 := by unfold gNm; decide +kernel
def fL_tryCredit (a0 : Nat) (p1 : Int32) (p2 : Int32) (m : gM) : Option (gM × Int32) := gTry [1, 2] (fX5_creditIn a0 p1 p2 m)
set_option maxHeartbeats 4000000 in
set_option maxRecDepth 100000 in
theorem tL_tryCredit (l : Launch) (hlt : l.stackTraces = false) (G : gX) (u : gU) (hF : gFull u) (a0 : Nat) (p1 : Int32) (p2 : Int32) (m : gM) (o : gM × Int32) (h : fL_tryCredit a0 p1 p2 m = some o) (h0 : gIn u a0 4 0) : gMetW l G u u yL_tryCredit (.codeWith yL_tryCredit cL_tryCredit 4 (some .int) [(0, 6, 7, 13), (0, 6, 11, 16)]) rmL_tryCredit [.ref a0, .int p1, .int p2] m o.1 (some (.int o.2)) := by
  obtain ⟨q, hq, ⟨hz, rfl⟩ | ⟨hz, he, rfl⟩⟩ := gTry_some h
  · refine gMetW_of (own := RL) (k := 1) (by decide) rfl ⟨rfl, rfl⟩ (Nat.le_of_ble_eq_true rfl) [some (.ref a0), some (.int p1), some (.int p2), none] rfl (fun Y hG hu hnL hLn hRm hCs he2 => ?_)
    subst hG hu hLn
    refine r_aload_n (pc := 0) dL_tryCredit_0 rfl rfl ?_
    refine r_iload_n (pc := 1) dL_tryCredit_1 rfl rfl ?_
    refine r_iload_n (pc := 2) dL_tryCredit_2 rfl rfl ?_
    refine r_callV (kd := 4) (pc := 3) [.int _, .int _] (tX5_creditIn _ _ _ hF _ _ _ _ _ hq hz h0) ⟨rfl, rfl⟩ cd_X5_creditIn wL_92 nm_X5_creditIn rfl (by rw [hRm]; decide) rfl (Nat.le_of_ble_eq_true rfl) rfl (by decide) h0 dL_tryCredit_3 ?_
    exact r_iretW dL_tryCredit_6 he2 rfl
  · refine gMetW_of (own := RL) (k := 1) (by decide) rfl ⟨rfl, rfl⟩ (Nat.le_of_ble_eq_true rfl) [some (.ref a0), some (.int p1), some (.int p2), none] rfl (fun Y hG hu hnL hLn hRm hCs he2 => ?_)
    subst hG hu hLn
    rcases gE2 he with e0 | e1
    · refine r_aload_n (pc := 0) dL_tryCredit_0 rfl rfl ?_
      refine r_iload_n (pc := 1) dL_tryCredit_1 rfl rfl ?_
      refine r_iload_n (pc := 2) dL_tryCredit_2 rfl rfl ?_
      refine r_callVC (kd := 4) (pc := 3) (hp := 7) (hp1 := 8) [.int _, .int _] (tX5_creditInT _ hlt _ _ hF _ _ _ _ _ hq hz h0) ⟨rfl, rfl⟩ cd_X5_creditIn wL_92 nm_X5_creditIn rfl (by rw [hRm]; decide) rfl (Nat.le_of_ble_eq_true rfl) rfl (by decide) h0 dL_tryCredit_3 he2 hCs 0 (by decide) (by rw [e0]; rfl) [] (0, 6, 7, 13) [(0, 6, 11, 16)] rfl (by decide) rfl (by decide) (fun _ hz => nomatch hz) (by rw [e0]; exact clL_13) (by rw [e0]; exact caL_1) (Or.inl ⟨3, 3, dL_tryCredit_7, rfl, by rw [hnL]; decide, rfl⟩) ?_
      refine r_ldc (own := RL) (pc := 8) (v := (-9999001)) dL_tryCredit_8 cL_15 ?_
      rw [e0] at he2
      exact r_iretW dL_tryCredit_10 (gEndW_s he2 (Nat.le_refl _) (Nat.le_refl _)) gYs_u
    · refine r_aload_n (pc := 0) dL_tryCredit_0 rfl rfl ?_
      refine r_iload_n (pc := 1) dL_tryCredit_1 rfl rfl ?_
      refine r_iload_n (pc := 2) dL_tryCredit_2 rfl rfl ?_
      refine r_callVC (kd := 4) (pc := 3) (hp := 11) (hp1 := 12) [.int _, .int _] (tX5_creditInT _ hlt _ _ hF _ _ _ _ _ hq hz h0) ⟨rfl, rfl⟩ cd_X5_creditIn wL_92 nm_X5_creditIn rfl (by rw [hRm]; decide) rfl (Nat.le_of_ble_eq_true rfl) rfl (by decide) h0 dL_tryCredit_3 he2 hCs 1 (by decide) (by rw [e1]; rfl) [(0, 6, 7, 13)] (0, 6, 11, 16) [] rfl (by decide) rfl (by decide) (fun z hz => by rcases List.mem_singleton.mp hz with rfl; exact ⟨by decide, 0, by decide, by decide, clL_13⟩) (by rw [e1]; exact clL_16) (by rw [e1]; exact caL_2) (Or.inl ⟨3, 3, dL_tryCredit_11, rfl, by rw [hnL]; decide, rfl⟩) ?_
      refine r_ldc (own := RL) (pc := 12) (v := (-9999002)) dL_tryCredit_12 cL_18 ?_
      rw [e1] at he2
      exact r_iretW dL_tryCredit_14 (gEndW_s he2 (Nat.le_refl _) (Nat.le_refl _)) gYs_u
abbrev rmL_tryClear : Room := { frames := 8, cells := 1, slots := 6, locals := 124 }
theorem cd_L_tryClear : Cond.codeWith yL_tryClear cL_tryClear 3 (some .int) [(0, 5, 6, 13)] ∈ gG := gG_mem (List.mem_of_getElem? (i := 807) (by decide +kernel)) rfl
theorem nm_L_tryClear : gNm yL_tryClear 2 := by unfold gNm; decide +kernel
def fL_tryClear (a0 : Nat) (p1 : Int32) (m : gM) : Option (gM × Int32) := gTry [1] (fX5_clearIn a0 p1 m)
set_option maxHeartbeats 4000000 in
set_option maxRecDepth 100000 in
theorem tL_tryClear (l : Launch) (hlt : l.stackTraces = false) (G : gX) (u : gU) (hF : gFull u) (a0 : Nat) (p1 : Int32) (m : gM) (o : gM × Int32) (h : fL_tryClear a0 p1 m = some o) (h0 : gIn u a0 4 0) : gMetW l G u u yL_tryClear (.codeWith yL_tryClear cL_tryClear 3 (some .int) [(0, 5, 6, 13)]) rmL_tryClear [.ref a0, .int p1] m o.1 (some (.int o.2)) := by
  obtain ⟨q, hq, ⟨hz, rfl⟩ | ⟨hz, he, rfl⟩⟩ := gTry_some h
  · refine gMetW_of (own := RL) (k := 1) (by decide) rfl ⟨rfl, rfl⟩ (Nat.le_of_ble_eq_true rfl) [some (.ref a0), some (.int p1), none] rfl (fun Y hG hu hnL hLn hRm hCs he2 => ?_)
    subst hG hu hLn
    refine r_aload_n (pc := 0) dL_tryClear_0 rfl rfl ?_
    refine r_iload_n (pc := 1) dL_tryClear_1 rfl rfl ?_
    refine r_callV (kd := 4) (pc := 2) [.int _] (tX5_clearIn _ _ _ hF _ _ _ _ hq hz h0) ⟨rfl, rfl⟩ cd_X5_clearIn wL_95 nm_X5_clearIn rfl (by rw [hRm]; decide) rfl (Nat.le_of_ble_eq_true rfl) rfl (by decide) h0 dL_tryClear_2 ?_
    exact r_iretW dL_tryClear_5 he2 rfl
  · refine gMetW_of (own := RL) (k := 1) (by decide) rfl ⟨rfl, rfl⟩ (Nat.le_of_ble_eq_true rfl) [some (.ref a0), some (.int p1), none] rfl (fun Y hG hu hnL hLn hRm hCs he2 => ?_)
    subst hG hu hLn
    have e0 := gE1 he
    refine r_aload_n (pc := 0) dL_tryClear_0 rfl rfl ?_
    refine r_iload_n (pc := 1) dL_tryClear_1 rfl rfl ?_
    refine r_callVC (kd := 4) (pc := 2) (hp := 6) (hp1 := 7) [.int _] (tX5_clearInT _ hlt _ _ hF _ _ _ _ hq hz h0) ⟨rfl, rfl⟩ cd_X5_clearIn wL_95 nm_X5_clearIn rfl (by rw [hRm]; decide) rfl (Nat.le_of_ble_eq_true rfl) rfl (by decide) h0 dL_tryClear_2 he2 hCs 0 (by decide) (by rw [e0]; rfl) [] (0, 5, 6, 13) [] rfl (by decide) rfl (by decide) (fun _ hz => nomatch hz) (by rw [e0]; exact clL_13) (by rw [e0]; exact caL_1) (Or.inl ⟨2, 2, dL_tryClear_6, rfl, by rw [hnL]; decide, rfl⟩) ?_
    refine r_ldc (own := RL) (pc := 7) (v := (-9999001)) dL_tryClear_7 cL_15 ?_
    rw [e0] at he2
    exact r_iretW dL_tryClear_9 (gEndW_s he2 (Nat.le_refl _) (Nat.le_refl _)) gYs_u
abbrev rmL_tryOven : Room := { frames := 8, cells := 1, slots := 6, locals := 125 }
theorem cd_L_tryOven : Cond.codeWith yL_tryOven cL_tryOven 3 (some .int) [(0, 5, 6, 16)] ∈ gG := gG_mem (List.mem_of_getElem? (i := 814) (by decide +kernel)) rfl
theorem nm_L_tryOven : gNm yL_tryOven 2 := by unfold gNm; decide +kernel
def fL_tryOven (a0 : Nat) (p1 : Int32) (m : gM) : Option (gM × Int32) := gTry [2] (fX5_leastOven a0 p1 m)
set_option maxHeartbeats 4000000 in
set_option maxRecDepth 100000 in
theorem tL_tryOven (l : Launch) (hlt : l.stackTraces = false) (G : gX) (u : gU) (hF : gFull u) (a0 : Nat) (p1 : Int32) (m : gM) (o : gM × Int32) (h : fL_tryOven a0 p1 m = some o) (h0 : gIn u a0 4 0) : gMetW l G u u yL_tryOven (.codeWith yL_tryOven cL_tryOven 3 (some .int) [(0, 5, 6, 16)]) rmL_tryOven [.ref a0, .int p1] m o.1 (some (.int o.2)) := by
  obtain ⟨q, hq, ⟨hz, rfl⟩ | ⟨hz, he, rfl⟩⟩ := gTry_some h
  · refine gMetW_of (own := RL) (k := 1) (by decide) rfl ⟨rfl, rfl⟩ (Nat.le_of_ble_eq_true rfl) [some (.ref a0), some (.int p1), none] rfl (fun Y hG hu hnL hLn hRm hCs he2 => ?_)
    subst hG hu hLn
    refine r_aload_n (pc := 0) dL_tryOven_0 rfl rfl ?_
    refine r_iload_n (pc := 1) dL_tryOven_1 rfl rfl ?_
    refine r_callV (kd := 4) (pc := 2) [.int _] (tX5_leastOven _ _ _ hF _ _ _ _ hq hz h0) ⟨rfl, rfl⟩ cd_X5_leastOven wL_98 nm_X5_leastOven rfl (by rw [hRm]; decide) rfl (Nat.le_of_ble_eq_true rfl) rfl (by decide) h0 dL_tryOven_2 ?_
    exact r_iretW dL_tryOven_5 he2 rfl
  · refine gMetW_of (own := RL) (k := 1) (by decide) rfl ⟨rfl, rfl⟩ (Nat.le_of_ble_eq_true rfl) [some (.ref a0), some (.int p1), none] rfl (fun Y hG hu hnL hLn hRm hCs he2 => ?_)
    subst hG hu hLn
    have e0 := gE1 he
    refine r_aload_n (pc := 0) dL_tryOven_0 rfl rfl ?_
    refine r_iload_n (pc := 1) dL_tryOven_1 rfl rfl ?_
    refine r_callVC (kd := 4) (pc := 2) (hp := 6) (hp1 := 7) [.int _] (tX5_leastOvenT _ hlt _ _ hF _ _ _ _ hq hz h0) ⟨rfl, rfl⟩ cd_X5_leastOven wL_98 nm_X5_leastOven rfl (by rw [hRm]; decide) rfl (Nat.le_of_ble_eq_true rfl) rfl (by decide) h0 dL_tryOven_2 he2 hCs 1 (by decide) (by rw [e0]; rfl) [] (0, 5, 6, 16) [] rfl (by decide) rfl (by decide) (fun _ hz => nomatch hz) (by rw [e0]; exact clL_16) (by rw [e0]; exact caL_2) (Or.inl ⟨2, 2, dL_tryOven_6, rfl, by rw [hnL]; decide, rfl⟩) ?_
    refine r_ldc (own := RL) (pc := 7) (v := (-9999002)) dL_tryOven_7 cL_18 ?_
    rw [e0] at he2
    exact r_iretW dL_tryOven_9 (gEndW_s he2 (Nat.le_refl _) (Nat.le_refl _)) gYs_u
abbrev rmL_tryBest : Room := { frames := 8, cells := 1, slots := 6, locals := 127 }
theorem cd_L_tryBest : Cond.codeWith yL_tryBest cL_tryBest 3 (some .int) [(0, 5, 6, 16)] ∈ gG := gG_mem (List.mem_of_getElem? (i := 826) (by decide +kernel)) rfl
theorem nm_L_tryBest : gNm yL_tryBest 2 := by unfold gNm; decide +kernel
def fL_tryBest (a0 : Nat) (p1 : Int32) (m : gM) : Option (gM × Int32) := gTry [2] (fX5_bestRound a0 p1 m)
set_option maxHeartbeats 4000000 in
set_option maxRecDepth 100000 in
theorem tL_tryBest (l : Launch) (hlt : l.stackTraces = false) (G : gX) (u : gU) (hF : gFull u) (a0 : Nat) (p1 : Int32) (m : gM) (o : gM × Int32) (h : fL_tryBest a0 p1 m = some o) (h0 : gIn u a0 4 0) : gMetW l G u u yL_tryBest (.codeWith yL_tryBest cL_tryBest 3 (some .int) [(0, 5, 6, 16)]) rmL_tryBest [.ref a0, .int p1] m o.1 (some (.int o.2)) := by
  obtain ⟨q, hq, ⟨hz, rfl⟩ | ⟨hz, he, rfl⟩⟩ := gTry_some h
  · refine gMetW_of (own := RL) (k := 1) (by decide) rfl ⟨rfl, rfl⟩ (Nat.le_of_ble_eq_true rfl) [some (.ref a0), some (.int p1), none] rfl (fun Y hG hu hnL hLn hRm hCs he2 => ?_)
    subst hG hu hLn
    refine r_aload_n (pc := 0) dL_tryBest_0 rfl rfl ?_
    refine r_iload_n (pc := 1) dL_tryBest_1 rfl rfl ?_
    refine r_callV (kd := 4) (pc := 2) [.int _] (tX5_bestRound _ _ _ hF _ _ _ _ hq hz h0) ⟨rfl, rfl⟩ cd_X5_bestRound wL_101 nm_X5_bestRound rfl (by rw [hRm]; decide) rfl (Nat.le_of_ble_eq_true rfl) rfl (by decide) h0 dL_tryBest_2 ?_
    exact r_iretW dL_tryBest_5 he2 rfl
  · refine gMetW_of (own := RL) (k := 1) (by decide) rfl ⟨rfl, rfl⟩ (Nat.le_of_ble_eq_true rfl) [some (.ref a0), some (.int p1), none] rfl (fun Y hG hu hnL hLn hRm hCs he2 => ?_)
    subst hG hu hLn
    have e0 := gE1 he
    refine r_aload_n (pc := 0) dL_tryBest_0 rfl rfl ?_
    refine r_iload_n (pc := 1) dL_tryBest_1 rfl rfl ?_
    refine r_callVC (kd := 4) (pc := 2) (hp := 6) (hp1 := 7) [.int _] (tX5_bestRoundT _ hlt _ _ hF _ _ _ _ hq hz h0) ⟨rfl, rfl⟩ cd_X5_bestRound wL_101 nm_X5_bestRound rfl (by rw [hRm]; decide) rfl (Nat.le_of_ble_eq_true rfl) rfl (by decide) h0 dL_tryBest_2 he2 hCs 1 (by decide) (by rw [e0]; rfl) [] (0, 5, 6, 16) [] rfl (by decide) rfl (by decide) (fun _ hz => nomatch hz) (by rw [e0]; exact clL_16) (by rw [e0]; exact caL_2) (Or.inl ⟨2, 2, dL_tryBest_6, rfl, by rw [hnL]; decide, rfl⟩) ?_
    refine r_ldc (own := RL) (pc := 7) (v := (-9999002)) dL_tryBest_7 cL_18 ?_
    rw [e0] at he2
    exact r_iretW dL_tryBest_9 (gEndW_s he2 (Nat.le_refl _) (Nat.le_refl _)) gYs_u
abbrev rmL_tryKeep : Room := { frames := 8, cells := 1, slots := 6, locals := 123 }
theorem cd_L_tryKeep : Cond.codeWith yL_tryKeep cL_tryKeep 3 (some .int) [(0, 5, 6, 13)] ∈ gG := gG_mem (List.mem_of_getElem? (i := 845) (by decide +kernel)) rfl
theorem nm_L_tryKeep : gNm yL_tryKeep 2 := by unfold gNm; decide +kernel
def fL_tryKeep (a0 : Nat) (p1 : Int32) (m : gM) : Option (gM × Int32) := gTry [1] (fX5_save a0 p1 m)
set_option maxHeartbeats 4000000 in
set_option maxRecDepth 100000 in
theorem tL_tryKeep (l : Launch) (hlt : l.stackTraces = false) (G : gX) (u : gU) (hF : gFull u) (a0 : Nat) (p1 : Int32) (m : gM) (o : gM × Int32) (h : fL_tryKeep a0 p1 m = some o) (h0 : gIn u a0 4 0) : gMetW l G u u yL_tryKeep (.codeWith yL_tryKeep cL_tryKeep 3 (some .int) [(0, 5, 6, 13)]) rmL_tryKeep [.ref a0, .int p1] m o.1 (some (.int o.2)) := by
  obtain ⟨q, hq, ⟨hz, rfl⟩ | ⟨hz, he, rfl⟩⟩ := gTry_some h
  · refine gMetW_of (own := RL) (k := 1) (by decide) rfl ⟨rfl, rfl⟩ (Nat.le_of_ble_eq_true rfl) [some (.ref a0), some (.int p1), none] rfl (fun Y hG hu hnL hLn hRm hCs he2 => ?_)
    subst hG hu hLn
    refine r_aload_n (pc := 0) dL_tryKeep_0 rfl rfl ?_
    refine r_iload_n (pc := 1) dL_tryKeep_1 rfl rfl ?_
    refine r_callV (kd := 4) (pc := 2) [.int _] (tX5_save _ _ _ hF _ _ _ _ hq hz h0) ⟨rfl, rfl⟩ cd_X5_save wL_104 nm_X5_save rfl (by rw [hRm]; decide) rfl (Nat.le_of_ble_eq_true rfl) rfl (by decide) h0 dL_tryKeep_2 ?_
    exact r_iretW dL_tryKeep_5 he2 rfl
  · refine gMetW_of (own := RL) (k := 1) (by decide) rfl ⟨rfl, rfl⟩ (Nat.le_of_ble_eq_true rfl) [some (.ref a0), some (.int p1), none] rfl (fun Y hG hu hnL hLn hRm hCs he2 => ?_)
    subst hG hu hLn
    have e0 := gE1 he
    refine r_aload_n (pc := 0) dL_tryKeep_0 rfl rfl ?_
    refine r_iload_n (pc := 1) dL_tryKeep_1 rfl rfl ?_
    refine r_callVC (kd := 4) (pc := 2) (hp := 6) (hp1 := 7) [.int _] (tX5_saveT _ hlt _ _ hF _ _ _ _ hq hz h0) ⟨rfl, rfl⟩ cd_X5_save wL_104 nm_X5_save rfl (by rw [hRm]; decide) rfl (Nat.le_of_ble_eq_true rfl) rfl (by decide) h0 dL_tryKeep_2 he2 hCs 0 (by decide) (by rw [e0]; rfl) [] (0, 5, 6, 13) [] rfl (by decide) rfl (by decide) (fun _ hz => nomatch hz) (by rw [e0]; exact clL_13) (by rw [e0]; exact caL_1) (Or.inl ⟨2, 2, dL_tryKeep_6, rfl, by rw [hnL]; decide, rfl⟩) ?_
    refine r_ldc (own := RL) (pc := 7) (v := (-9999001)) dL_tryKeep_7 cL_15 ?_
    rw [e0] at he2
    exact r_iretW dL_tryKeep_9 (gEndW_s he2 (Nat.le_refl _) (Nat.le_refl _)) gYs_u
abbrev rmL_tryBack : Room := { frames := 8, cells := 1, slots := 6, locals := 123 }
theorem cd_L_tryBack : Cond.codeWith yL_tryBack cL_tryBack 3 (some .int) [(0, 5, 6, 13), (0, 5, 10, 35)] ∈ gG := gG_mem (List.mem_of_getElem? (i := 855) (by decide +kernel)) rfl
theorem nm_L_tryBack : gNm yL_tryBack 2 := by unfold gNm; decide +kernel
def fL_tryBack (a0 : Nat) (p1 : Int32) (m : gM) : Option (gM × Int32) := gTry [1, 3] (fX5_restore a0 p1 m)
set_option maxHeartbeats 4000000 in
set_option maxRecDepth 100000 in
theorem tL_tryBack (l : Launch) (hlt : l.stackTraces = false) (G : gX) (u : gU) (hF : gFull u) (a0 : Nat) (p1 : Int32) (m : gM) (o : gM × Int32) (h : fL_tryBack a0 p1 m = some o) (h0 : gIn u a0 4 0) : gMetW l G u u yL_tryBack (.codeWith yL_tryBack cL_tryBack 3 (some .int) [(0, 5, 6, 13), (0, 5, 10, 35)]) rmL_tryBack [.ref a0, .int p1] m o.1 (some (.int o.2)) := by
  obtain ⟨q, hq, ⟨hz, rfl⟩ | ⟨hz, he, rfl⟩⟩ := gTry_some h
  · refine gMetW_of (own := RL) (k := 1) (by decide) rfl ⟨rfl, rfl⟩ (Nat.le_of_ble_eq_true rfl) [some (.ref a0), some (.int p1), none] rfl (fun Y hG hu hnL hLn hRm hCs he2 => ?_)
    subst hG hu hLn
    refine r_aload_n (pc := 0) dL_tryBack_0 rfl rfl ?_
    refine r_iload_n (pc := 1) dL_tryBack_1 rfl rfl ?_
    refine r_callV (kd := 4) (pc := 2) [.int _] (tX5_restore _ _ _ hF _ _ _ _ hq hz h0) ⟨rfl, rfl⟩ cd_X5_restore wL_107 nm_X5_restore rfl (by rw [hRm]; decide) rfl (Nat.le_of_ble_eq_true rfl) rfl (by decide) h0 dL_tryBack_2 ?_
    exact r_iretW dL_tryBack_5 he2 rfl
  · refine gMetW_of (own := RL) (k := 1) (by decide) rfl ⟨rfl, rfl⟩ (Nat.le_of_ble_eq_true rfl) [some (.ref a0), some (.int p1), none] rfl (fun Y hG hu hnL hLn hRm hCs he2 => ?_)
    subst hG hu hLn
    rcases gE2 he with e0 | e1
    · refine r_aload_n (pc := 0) dL_tryBack_0 rfl rfl ?_
      refine r_iload_n (pc := 1) dL_tryBack_1 rfl rfl ?_
      refine r_callVC (kd := 4) (pc := 2) (hp := 6) (hp1 := 7) [.int _] (tX5_restoreT _ hlt _ _ hF _ _ _ _ hq hz h0) ⟨rfl, rfl⟩ cd_X5_restore wL_107 nm_X5_restore rfl (by rw [hRm]; decide) rfl (Nat.le_of_ble_eq_true rfl) rfl (by decide) h0 dL_tryBack_2 he2 hCs 0 (by decide) (by rw [e0]; rfl) [] (0, 5, 6, 13) [(0, 5, 10, 35)] rfl (by decide) rfl (by decide) (fun _ hz => nomatch hz) (by rw [e0]; exact clL_13) (by rw [e0]; exact caL_1) (Or.inl ⟨2, 2, dL_tryBack_6, rfl, by rw [hnL]; decide, rfl⟩) ?_
      refine r_ldc (own := RL) (pc := 7) (v := (-9999001)) dL_tryBack_7 cL_15 ?_
      rw [e0] at he2
      exact r_iretW dL_tryBack_9 (gEndW_s he2 (Nat.le_refl _) (Nat.le_refl _)) gYs_u
    · refine r_aload_n (pc := 0) dL_tryBack_0 rfl rfl ?_
      refine r_iload_n (pc := 1) dL_tryBack_1 rfl rfl ?_
      refine r_callVC (kd := 4) (pc := 2) (hp := 10) (hp1 := 11) [.int _] (tX5_restoreT _ hlt _ _ hF _ _ _ _ hq hz h0) ⟨rfl, rfl⟩ cd_X5_restore wL_107 nm_X5_restore rfl (by rw [hRm]; decide) rfl (Nat.le_of_ble_eq_true rfl) rfl (by decide) h0 dL_tryBack_2 he2 hCs 2 (by decide) (by rw [e1]; rfl) [(0, 5, 6, 13)] (0, 5, 10, 35) [] rfl (by decide) rfl (by decide) (fun z hz => by rcases List.mem_singleton.mp hz with rfl; exact ⟨by decide, 0, by decide, by decide, clL_13⟩) (by rw [e1]; exact clL_35) (by rw [e1]; exact caL_3) (Or.inl ⟨2, 2, dL_tryBack_10, rfl, by rw [hnL]; decide, rfl⟩) ?_
      refine r_ldc (own := RL) (pc := 11) (v := (-9999003)) dL_tryBack_11 cL_37 ?_
      rw [e1] at he2
      exact r_iretW dL_tryBack_13 (gEndW_s he2 (Nat.le_refl _) (Nat.le_refl _)) gYs_u
abbrev rmL_dues : Room := { frames := 8, cells := 1, slots := 6, locals := 127 }
theorem cd_L_dues : Cond.codeWith yL_dues cL_dues 6 (some .int) [(0, 9, 10, 13), (0, 9, 15, 16)] ∈ gG := gG_mem (List.mem_of_getElem? (i := 870) (by decide +kernel)) rfl
theorem nm_L_dues : gNm yL_dues 5 := by unfold gNm; decide +kernel
def fL_dues (a0 : Nat) (p1 : Int32) (p2 : Int32) (p3 : Int32) (p4 : Int32) (m : gM) : Option (gM × Int32) := gTry [1, 2] (fX5_due a0 p1 p2 p3 p4 m)
set_option maxHeartbeats 4000000 in
set_option maxRecDepth 100000 in
theorem tL_dues (l : Launch) (hlt : l.stackTraces = false) (G : gX) (u : gU) (hF : gFull u) (a0 : Nat) (p1 : Int32) (p2 : Int32) (p3 : Int32) (p4 : Int32) (m : gM) (o : gM × Int32) (h : fL_dues a0 p1 p2 p3 p4 m = some o) (h0 : gIn u a0 4 0) : gMetW l G u u yL_dues (.codeWith yL_dues cL_dues 6 (some .int) [(0, 9, 10, 13), (0, 9, 15, 16)]) rmL_dues [.ref a0, .int p1, .int p2, .int p3, .int p4] m o.1 (some (.int o.2)) := by
  obtain ⟨q, hq, ⟨hz, rfl⟩ | ⟨hz, he, rfl⟩⟩ := gTry_some h
  · refine gMetW_of (own := RL) (k := 1) (by decide) rfl ⟨rfl, rfl⟩ (Nat.le_of_ble_eq_true rfl) [some (.ref a0), some (.int p1), some (.int p2), some (.int p3), some (.int p4), none] rfl (fun Y hG hu hnL hLn hRm hCs he2 => ?_)
    subst hG hu hLn
    refine r_aload_n (pc := 0) dL_dues_0 rfl rfl ?_
    refine r_iload_n (pc := 1) dL_dues_1 rfl rfl ?_
    refine r_iload_n (pc := 2) dL_dues_2 rfl rfl ?_
    refine r_iload_n (pc := 3) dL_dues_3 rfl rfl ?_
    refine r_iload (pc := 4) dL_dues_4 rfl ?_
    refine r_callV (kd := 4) (pc := 6) [.int _, .int _, .int _, .int _] (tX5_due _ _ _ hF _ _ _ _ _ _ _ hq hz h0) ⟨rfl, rfl⟩ cd_X5_due wL_7 nm_X5_due rfl (by rw [hRm]; decide) rfl (Nat.le_of_ble_eq_true rfl) rfl (by decide) h0 dL_dues_6 ?_
    exact r_iretW dL_dues_9 he2 rfl
  · refine gMetW_of (own := RL) (k := 1) (by decide) rfl ⟨rfl, rfl⟩ (Nat.le_of_ble_eq_true rfl) [some (.ref a0), some (.int p1), some (.int p2), some (.int p3), some (.int p4), none] rfl (fun Y hG hu hnL hLn hRm hCs he2 => ?_)
    subst hG hu hLn
    rcases gE2 he with e0 | e1
    · refine r_aload_n (pc := 0) dL_dues_0 rfl rfl ?_
      refine r_iload_n (pc := 1) dL_dues_1 rfl rfl ?_
      refine r_iload_n (pc := 2) dL_dues_2 rfl rfl ?_
      refine r_iload_n (pc := 3) dL_dues_3 rfl rfl ?_
      refine r_iload (pc := 4) dL_dues_4 rfl ?_
      refine r_callVC (kd := 4) (pc := 6) (hp := 10) (hp1 := 12) [.int _, .int _, .int _, .int _] (tX5_dueT _ hlt _ _ hF _ _ _ _ _ _ _ hq hz h0) ⟨rfl, rfl⟩ cd_X5_due wL_7 nm_X5_due rfl (by rw [hRm]; decide) rfl (Nat.le_of_ble_eq_true rfl) rfl (by decide) h0 dL_dues_6 he2 hCs 0 (by decide) (by rw [e0]; rfl) [] (0, 9, 10, 13) [(0, 9, 15, 16)] rfl (by decide) rfl (by decide) (fun _ hz => nomatch hz) (by rw [e0]; exact clL_13) (by rw [e0]; exact caL_1) (Or.inr ⟨5, dL_dues_10, by rw [hnL]; decide, rfl⟩) ?_
      refine r_ldc (own := RL) (pc := 12) (v := (-9999001)) dL_dues_12 cL_15 ?_
      rw [e0] at he2
      exact r_iretW dL_dues_14 (gEndW_s he2 (Nat.le_refl _) (Nat.le_refl _)) gYs_u
    · refine r_aload_n (pc := 0) dL_dues_0 rfl rfl ?_
      refine r_iload_n (pc := 1) dL_dues_1 rfl rfl ?_
      refine r_iload_n (pc := 2) dL_dues_2 rfl rfl ?_
      refine r_iload_n (pc := 3) dL_dues_3 rfl rfl ?_
      refine r_iload (pc := 4) dL_dues_4 rfl ?_
      refine r_callVC (kd := 4) (pc := 6) (hp := 15) (hp1 := 17) [.int _, .int _, .int _, .int _] (tX5_dueT _ hlt _ _ hF _ _ _ _ _ _ _ hq hz h0) ⟨rfl, rfl⟩ cd_X5_due wL_7 nm_X5_due rfl (by rw [hRm]; decide) rfl (Nat.le_of_ble_eq_true rfl) rfl (by decide) h0 dL_dues_6 he2 hCs 1 (by decide) (by rw [e1]; rfl) [(0, 9, 10, 13)] (0, 9, 15, 16) [] rfl (by decide) rfl (by decide) (fun z hz => by rcases List.mem_singleton.mp hz with rfl; exact ⟨by decide, 0, by decide, by decide, clL_13⟩) (by rw [e1]; exact clL_16) (by rw [e1]; exact caL_2) (Or.inr ⟨5, dL_dues_15, by rw [hnL]; decide, rfl⟩) ?_
      refine r_ldc (own := RL) (pc := 17) (v := (-9999002)) dL_dues_17 cL_18 ?_
      rw [e1] at he2
      exact r_iretW dL_dues_19 (gEndW_s he2 (Nat.le_refl _) (Nat.le_refl _)) gYs_u
abbrev rmL_closes : Room := { frames := 9, cells := 1, slots := 6, locals := 167 }
theorem cd_L_closes : Cond.codeWith yL_closes cL_closes 5 (some .int) [(0, 7, 8, 13)] ∈ gG := gG_mem (List.mem_of_getElem? (i := 891) (by decide +kernel)) rfl
theorem nm_L_closes : gNm yL_closes 4 := by unfold gNm; decide +kernel
def fL_closes (a0 : Nat) (p1 : Int32) (p2 : Int32) (p3 : Int32) (m : gM) : Option (gM × Int32) := gTry [1] (fX5_close a0 p1 p2 p3 m)
set_option maxHeartbeats 4000000 in
set_option maxRecDepth 100000 in
theorem tL_closes (l : Launch) (hlt : l.stackTraces = false) (G : gX) (u : gU) (hF : gFull u) (a0 : Nat) (p1 : Int32) (p2 : Int32) (p3 : Int32) (m : gM) (o : gM × Int32) (h : fL_closes a0 p1 p2 p3 m = some o) (h0 : gIn u a0 4 0) : gMetW l G u u yL_closes (.codeWith yL_closes cL_closes 5 (some .int) [(0, 7, 8, 13)]) rmL_closes [.ref a0, .int p1, .int p2, .int p3] m o.1 (some (.int o.2)) := by
  obtain ⟨q, hq, ⟨hz, rfl⟩ | ⟨hz, he, rfl⟩⟩ := gTry_some h
  · refine gMetW_of (own := RL) (k := 1) (by decide) rfl ⟨rfl, rfl⟩ (Nat.le_of_ble_eq_true rfl) [some (.ref a0), some (.int p1), some (.int p2), some (.int p3), none] rfl (fun Y hG hu hnL hLn hRm hCs he2 => ?_)
    subst hG hu hLn
    refine r_aload_n (pc := 0) dL_closes_0 rfl rfl ?_
    refine r_iload_n (pc := 1) dL_closes_1 rfl rfl ?_
    refine r_iload_n (pc := 2) dL_closes_2 rfl rfl ?_
    refine r_iload_n (pc := 3) dL_closes_3 rfl rfl ?_
    refine r_callV (kd := 4) (pc := 4) [.int _, .int _, .int _] (tX5_close _ _ _ hF _ _ _ _ _ _ hq hz h0) ⟨rfl, rfl⟩ cd_X5_close wL_19 nm_X5_close rfl (by rw [hRm]; decide) rfl (Nat.le_of_ble_eq_true rfl) rfl (by decide) h0 dL_closes_4 ?_
    exact r_iretW dL_closes_7 he2 rfl
  · refine gMetW_of (own := RL) (k := 1) (by decide) rfl ⟨rfl, rfl⟩ (Nat.le_of_ble_eq_true rfl) [some (.ref a0), some (.int p1), some (.int p2), some (.int p3), none] rfl (fun Y hG hu hnL hLn hRm hCs he2 => ?_)
    subst hG hu hLn
    have e0 := gE1 he
    refine r_aload_n (pc := 0) dL_closes_0 rfl rfl ?_
    refine r_iload_n (pc := 1) dL_closes_1 rfl rfl ?_
    refine r_iload_n (pc := 2) dL_closes_2 rfl rfl ?_
    refine r_iload_n (pc := 3) dL_closes_3 rfl rfl ?_
    refine r_callVC (kd := 4) (pc := 4) (hp := 8) (hp1 := 10) [.int _, .int _, .int _] (tX5_closeT _ hlt _ _ hF _ _ _ _ _ _ hq hz h0) ⟨rfl, rfl⟩ cd_X5_close wL_19 nm_X5_close rfl (by rw [hRm]; decide) rfl (Nat.le_of_ble_eq_true rfl) rfl (by decide) h0 dL_closes_4 he2 hCs 0 (by decide) (by rw [e0]; rfl) [] (0, 7, 8, 13) [] rfl (by decide) rfl (by decide) (fun _ hz => nomatch hz) (by rw [e0]; exact clL_13) (by rw [e0]; exact caL_1) (Or.inr ⟨4, dL_closes_8, by rw [hnL]; decide, rfl⟩) ?_
    refine r_ldc (own := RL) (pc := 10) (v := (-9999001)) dL_closes_10 cL_15 ?_
    rw [e0] at he2
    exact r_iretW dL_closes_12 (gEndW_s he2 (Nat.le_refl _) (Nat.le_refl _)) gYs_u
abbrev rmL_doScript : Room := { frames := 8, cells := 1, slots := 6, locals := 171 }
theorem cd_L_doScript : Cond.codeWith yL_doScript cL_doScript 5 (some .int) [(0, 6, 7, 16)] ∈ gG := gG_mem (List.mem_of_getElem? (i := 898) (by decide +kernel)) rfl
theorem nm_L_doScript : gNm yL_doScript 3 := by unfold gNm; decide +kernel
def fL_doScript (a0 : Nat) (p1 : Int32) (p2 : Int64) (m : gM) : Option (gM × Int32) := gTry [2] (fX5_runScript a0 p1 p2 m)
set_option maxHeartbeats 4000000 in
set_option maxRecDepth 100000 in
theorem tL_doScript (l : Launch) (hlt : l.stackTraces = false) (G : gX) (u : gU) (hF : gFull u) (a0 : Nat) (p1 : Int32) (p2 : Int64) (m : gM) (o : gM × Int32) (h : fL_doScript a0 p1 p2 m = some o) (h0 : gIn u a0 4 0) : gMetW l G u u yL_doScript (.codeWith yL_doScript cL_doScript 5 (some .int) [(0, 6, 7, 16)]) rmL_doScript [.ref a0, .int p1, .long p2] m o.1 (some (.int o.2)) := by
  obtain ⟨q, hq, ⟨hz, rfl⟩ | ⟨hz, he, rfl⟩⟩ := gTry_some h
  · refine gMetW_of (own := RL) (k := 1) (by decide) rfl ⟨rfl, rfl⟩ (Nat.le_of_ble_eq_true rfl) [some (.ref a0), some (.int p1), some (.long p2), none, none] rfl (fun Y hG hu hnL hLn hRm hCs he2 => ?_)
    subst hG hu hLn
    refine r_aload_n (pc := 0) dL_doScript_0 rfl rfl ?_
    refine r_iload_n (pc := 1) dL_doScript_1 rfl rfl ?_
    refine r_lload_n (pc := 2) dL_doScript_2 rfl rfl ?_
    refine r_callV (kd := 4) (pc := 3) [.int _, .long _] (tX5_runScript _ _ _ hF _ _ _ _ _ hq hz h0) ⟨rfl, rfl⟩ cd_X5_runScript wL_23 nm_X5_runScript rfl (by rw [hRm]; decide) rfl (Nat.le_of_ble_eq_true rfl) rfl (by decide) h0 dL_doScript_3 ?_
    exact r_iretW dL_doScript_6 he2 rfl
  · refine gMetW_of (own := RL) (k := 1) (by decide) rfl ⟨rfl, rfl⟩ (Nat.le_of_ble_eq_true rfl) [some (.ref a0), some (.int p1), some (.long p2), none, none] rfl (fun Y hG hu hnL hLn hRm hCs he2 => ?_)
    subst hG hu hLn
    have e0 := gE1 he
    refine r_aload_n (pc := 0) dL_doScript_0 rfl rfl ?_
    refine r_iload_n (pc := 1) dL_doScript_1 rfl rfl ?_
    refine r_lload_n (pc := 2) dL_doScript_2 rfl rfl ?_
    refine r_callVC (kd := 4) (pc := 3) (hp := 7) (hp1 := 9) [.int _, .long _] (tX5_runScriptT _ hlt _ _ hF _ _ _ _ _ hq hz h0) ⟨rfl, rfl⟩ cd_X5_runScript wL_23 nm_X5_runScript rfl (by rw [hRm]; decide) rfl (Nat.le_of_ble_eq_true rfl) rfl (by decide) h0 dL_doScript_3 he2 hCs 1 (by decide) (by rw [e0]; rfl) [] (0, 6, 7, 16) [] rfl (by decide) rfl (by decide) (fun _ hz => nomatch hz) (by rw [e0]; exact clL_16) (by rw [e0]; exact caL_2) (Or.inr ⟨4, dL_doScript_7, by rw [hnL]; decide, rfl⟩) ?_
    refine r_ldc (own := RL) (pc := 9) (v := (-9999002)) dL_doScript_9 cL_18 ?_
    rw [e0] at he2
    exact r_iretW dL_doScript_11 (gEndW_s he2 (Nat.le_refl _) (Nat.le_refl _)) gYs_u
abbrev rmL_doSimulate : Room := { frames := 8, cells := 1, slots := 6, locals := 168 }
theorem cd_L_doSimulate : Cond.codeWith yL_doSimulate cL_doSimulate 5 (some .int) [(0, 6, 7, 16)] ∈ gG := gG_mem (List.mem_of_getElem? (i := 919) (by decide +kernel)) rfl
theorem nm_L_doSimulate : gNm yL_doSimulate 3 := by unfold gNm; decide +kernel
def fL_doSimulate (a0 : Nat) (p1 : Int64) (p2 : Int32) (m : gM) : Option (gM × Int32) := gTry [2] (fX5_simulate a0 p1 p2 m)
set_option maxHeartbeats 4000000 in
set_option maxRecDepth 100000 in
theorem tL_doSimulate (l : Launch) (hlt : l.stackTraces = false) (G : gX) (u : gU) (hF : gFull u) (a0 : Nat) (p1 : Int64) (p2 : Int32) (m : gM) (o : gM × Int32) (h : fL_doSimulate a0 p1 p2 m = some o) (h0 : gIn u a0 4 0) : gMetW l G u u yL_doSimulate (.codeWith yL_doSimulate cL_doSimulate 5 (some .int) [(0, 6, 7, 16)]) rmL_doSimulate [.ref a0, .long p1, .int p2] m o.1 (some (.int o.2)) := by
  obtain ⟨q, hq, ⟨hz, rfl⟩ | ⟨hz, he, rfl⟩⟩ := gTry_some h
  · refine gMetW_of (own := RL) (k := 1) (by decide) rfl ⟨rfl, rfl⟩ (Nat.le_of_ble_eq_true rfl) [some (.ref a0), some (.long p1), none, some (.int p2), none] rfl (fun Y hG hu hnL hLn hRm hCs he2 => ?_)
    subst hG hu hLn
    refine r_aload_n (pc := 0) dL_doSimulate_0 rfl rfl ?_
    refine r_lload_n (pc := 1) dL_doSimulate_1 rfl rfl ?_
    refine r_iload_n (pc := 2) dL_doSimulate_2 rfl rfl ?_
    refine r_callV (kd := 4) (pc := 3) [.long _, .int _] (tX5_simulate _ _ _ hF _ _ _ _ _ hq hz h0) ⟨rfl, rfl⟩ cd_X5_simulate wL_27 nm_X5_simulate rfl (by rw [hRm]; decide) rfl (Nat.le_of_ble_eq_true rfl) rfl (by decide) h0 dL_doSimulate_3 ?_
    exact r_iretW dL_doSimulate_6 he2 rfl
  · refine gMetW_of (own := RL) (k := 1) (by decide) rfl ⟨rfl, rfl⟩ (Nat.le_of_ble_eq_true rfl) [some (.ref a0), some (.long p1), none, some (.int p2), none] rfl (fun Y hG hu hnL hLn hRm hCs he2 => ?_)
    subst hG hu hLn
    have e0 := gE1 he
    refine r_aload_n (pc := 0) dL_doSimulate_0 rfl rfl ?_
    refine r_lload_n (pc := 1) dL_doSimulate_1 rfl rfl ?_
    refine r_iload_n (pc := 2) dL_doSimulate_2 rfl rfl ?_
    refine r_callVC (kd := 4) (pc := 3) (hp := 7) (hp1 := 9) [.long _, .int _] (tX5_simulateT _ hlt _ _ hF _ _ _ _ _ hq hz h0) ⟨rfl, rfl⟩ cd_X5_simulate wL_27 nm_X5_simulate rfl (by rw [hRm]; decide) rfl (Nat.le_of_ble_eq_true rfl) rfl (by decide) h0 dL_doSimulate_3 he2 hCs 1 (by decide) (by rw [e0]; rfl) [] (0, 6, 7, 16) [] rfl (by decide) rfl (by decide) (fun _ hz => nomatch hz) (by rw [e0]; exact clL_16) (by rw [e0]; exact caL_2) (Or.inr ⟨4, dL_doSimulate_7, by rw [hnL]; decide, rfl⟩) ?_
    refine r_ldc (own := RL) (pc := 9) (v := (-9999002)) dL_doSimulate_9 cL_18 ?_
    rw [e0] at he2
    exact r_iretW dL_doSimulate_11 (gEndW_s he2 (Nat.le_refl _) (Nat.le_refl _)) gYs_u
theorem wL_110 : Cond.methodLink RL 110 yL_tryAppend ∈ gG ∧ Cond.static yL_tryAppend ∈ gG ∧ Cond.initialized (yL_tryAppend).cls ∈ gG := ⟨gG_mem (List.mem_of_getElem? (i := 248) (by decide +kernel)) rfl, gG_mem (List.mem_of_getElem? (i := 249) (by decide +kernel)) rfl, gG_mem (List.mem_of_getElem? (i := 58) (by decide +kernel)) rfl⟩
theorem wL_116 : Cond.methodLink RL 116 yL_tryLoad ∈ gG ∧ Cond.static yL_tryLoad ∈ gG ∧ Cond.initialized (yL_tryLoad).cls ∈ gG := ⟨gG_mem (List.mem_of_getElem? (i := 356) (by decide +kernel)) rfl, gG_mem (List.mem_of_getElem? (i := 357) (by decide +kernel)) rfl, gG_mem (List.mem_of_getElem? (i := 58) (by decide +kernel)) rfl⟩
theorem wL_120 : Cond.methodLink RL 120 yL_tryAbout ∈ gG ∧ Cond.static yL_tryAbout ∈ gG ∧ Cond.initialized (yL_tryAbout).cls ∈ gG := ⟨gG_mem (List.mem_of_getElem? (i := 600) (by decide +kernel)) rfl, gG_mem (List.mem_of_getElem? (i := 601) (by decide +kernel)) rfl, gG_mem (List.mem_of_getElem? (i := 58) (by decide +kernel)) rfl⟩
theorem wL_123 : Cond.methodLink RL 123 yL_tryTold ∈ gG ∧ Cond.static yL_tryTold ∈ gG ∧ Cond.initialized (yL_tryTold).cls ∈ gG := ⟨gG_mem (List.mem_of_getElem? (i := 623) (by decide +kernel)) rfl, gG_mem (List.mem_of_getElem? (i := 624) (by decide +kernel)) rfl, gG_mem (List.mem_of_getElem? (i := 58) (by decide +kernel)) rfl⟩
theorem wL_127 : Cond.methodLink RL 127 yL_tryOrdered ∈ gG ∧ Cond.static yL_tryOrdered ∈ gG ∧ Cond.initialized (yL_tryOrdered).cls ∈ gG := ⟨gG_mem (List.mem_of_getElem? (i := 659) (by decide +kernel)) rfl, gG_mem (List.mem_of_getElem? (i := 660) (by decide +kernel)) rfl, gG_mem (List.mem_of_getElem? (i := 58) (by decide +kernel)) rfl⟩
theorem wL_130 : Cond.methodLink RL 130 yL_tryAway ∈ gG ∧ Cond.static yL_tryAway ∈ gG ∧ Cond.initialized (yL_tryAway).cls ∈ gG := ⟨gG_mem (List.mem_of_getElem? (i := 667) (by decide +kernel)) rfl, gG_mem (List.mem_of_getElem? (i := 668) (by decide +kernel)) rfl, gG_mem (List.mem_of_getElem? (i := 58) (by decide +kernel)) rfl⟩
theorem wL_134 : Cond.methodLink RL 134 yL_tryClosed ∈ gG ∧ Cond.static yL_tryClosed ∈ gG ∧ Cond.initialized (yL_tryClosed).cls ∈ gG := ⟨gG_mem (List.mem_of_getElem? (i := 674) (by decide +kernel)) rfl, gG_mem (List.mem_of_getElem? (i := 675) (by decide +kernel)) rfl, gG_mem (List.mem_of_getElem? (i := 58) (by decide +kernel)) rfl⟩
theorem wL_137 : Cond.methodLink RL 137 yL_tryRound ∈ gG ∧ Cond.static yL_tryRound ∈ gG ∧ Cond.initialized (yL_tryRound).cls ∈ gG := ⟨gG_mem (List.mem_of_getElem? (i := 683) (by decide +kernel)) rfl, gG_mem (List.mem_of_getElem? (i := 684) (by decide +kernel)) rfl, gG_mem (List.mem_of_getElem? (i := 58) (by decide +kernel)) rfl⟩
theorem wL_140 : Cond.methodLink RL 140 yL_trySetting ∈ gG ∧ Cond.static yL_trySetting ∈ gG ∧ Cond.initialized (yL_trySetting).cls ∈ gG := ⟨gG_mem (List.mem_of_getElem? (i := 690) (by decide +kernel)) rfl, gG_mem (List.mem_of_getElem? (i := 691) (by decide +kernel)) rfl, gG_mem (List.mem_of_getElem? (i := 58) (by decide +kernel)) rfl⟩
theorem wL_143 : Cond.methodLink RL 143 yL_tryCome ∈ gG ∧ Cond.static yL_tryCome ∈ gG ∧ Cond.initialized (yL_tryCome).cls ∈ gG := ⟨gG_mem (List.mem_of_getElem? (i := 698) (by decide +kernel)) rfl, gG_mem (List.mem_of_getElem? (i := 699) (by decide +kernel)) rfl, gG_mem (List.mem_of_getElem? (i := 58) (by decide +kernel)) rfl⟩
theorem wL_146 : Cond.methodLink RL 146 yL_tryChange ∈ gG ∧ Cond.static yL_tryChange ∈ gG ∧ Cond.initialized (yL_tryChange).cls ∈ gG := ⟨gG_mem (List.mem_of_getElem? (i := 728) (by decide +kernel)) rfl, gG_mem (List.mem_of_getElem? (i := 729) (by decide +kernel)) rfl, gG_mem (List.mem_of_getElem? (i := 58) (by decide +kernel)) rfl⟩
theorem wL_149 : Cond.methodLink RL 149 yL_tryHoliday ∈ gG ∧ Cond.static yL_tryHoliday ∈ gG ∧ Cond.initialized (yL_tryHoliday).cls ∈ gG := ⟨gG_mem (List.mem_of_getElem? (i := 735) (by decide +kernel)) rfl, gG_mem (List.mem_of_getElem? (i := 736) (by decide +kernel)) rfl, gG_mem (List.mem_of_getElem? (i := 58) (by decide +kernel)) rfl⟩
theorem wL_152 : Cond.methodLink RL 152 yL_tryDrop ∈ gG ∧ Cond.static yL_tryDrop ∈ gG ∧ Cond.initialized (yL_tryDrop).cls ∈ gG := ⟨gG_mem (List.mem_of_getElem? (i := 742) (by decide +kernel)) rfl, gG_mem (List.mem_of_getElem? (i := 743) (by decide +kernel)) rfl, gG_mem (List.mem_of_getElem? (i := 58) (by decide +kernel)) rfl⟩
theorem wL_155 : Cond.methodLink RL 155 yL_trySwap ∈ gG ∧ Cond.static yL_trySwap ∈ gG ∧ Cond.initialized (yL_trySwap).cls ∈ gG := ⟨gG_mem (List.mem_of_getElem? (i := 749) (by decide +kernel)) rfl, gG_mem (List.mem_of_getElem? (i := 750) (by decide +kernel)) rfl, gG_mem (List.mem_of_getElem? (i := 58) (by decide +kernel)) rfl⟩
theorem wL_158 : Cond.methodLink RL 158 yL_tryLay ∈ gG ∧ Cond.static yL_tryLay ∈ gG ∧ Cond.initialized (yL_tryLay).cls ∈ gG := ⟨gG_mem (List.mem_of_getElem? (i := 756) (by decide +kernel)) rfl, gG_mem (List.mem_of_getElem? (i := 757) (by decide +kernel)) rfl, gG_mem (List.mem_of_getElem? (i := 58) (by decide +kernel)) rfl⟩
theorem wL_161 : Cond.methodLink RL 161 yL_tryDays ∈ gG ∧ Cond.static yL_tryDays ∈ gG ∧ Cond.initialized (yL_tryDays).cls ∈ gG := ⟨gG_mem (List.mem_of_getElem? (i := 763) (by decide +kernel)) rfl, gG_mem (List.mem_of_getElem? (i := 764) (by decide +kernel)) rfl, gG_mem (List.mem_of_getElem? (i := 58) (by decide +kernel)) rfl⟩
theorem wL_164 : Cond.methodLink RL 164 yL_tryUndo ∈ gG ∧ Cond.static yL_tryUndo ∈ gG ∧ Cond.initialized (yL_tryUndo).cls ∈ gG := ⟨gG_mem (List.mem_of_getElem? (i := 770) (by decide +kernel)) rfl, gG_mem (List.mem_of_getElem? (i := 771) (by decide +kernel)) rfl, gG_mem (List.mem_of_getElem? (i := 58) (by decide +kernel)) rfl⟩
theorem wL_167 : Cond.methodLink RL 167 yL_tryWhy ∈ gG ∧ Cond.static yL_tryWhy ∈ gG ∧ Cond.initialized (yL_tryWhy).cls ∈ gG := ⟨gG_mem (List.mem_of_getElem? (i := 781) (by decide +kernel)) rfl, gG_mem (List.mem_of_getElem? (i := 782) (by decide +kernel)) rfl, gG_mem (List.mem_of_getElem? (i := 58) (by decide +kernel)) rfl⟩
theorem wL_170 : Cond.methodLink RL 170 yL_tryCredit ∈ gG ∧ Cond.static yL_tryCredit ∈ gG ∧ Cond.initialized (yL_tryCredit).cls ∈ gG := ⟨gG_mem (List.mem_of_getElem? (i := 796) (by decide +kernel)) rfl, gG_mem (List.mem_of_getElem? (i := 797) (by decide +kernel)) rfl, gG_mem (List.mem_of_getElem? (i := 58) (by decide +kernel)) rfl⟩
theorem wL_173 : Cond.methodLink RL 173 yL_tryClear ∈ gG ∧ Cond.static yL_tryClear ∈ gG ∧ Cond.initialized (yL_tryClear).cls ∈ gG := ⟨gG_mem (List.mem_of_getElem? (i := 805) (by decide +kernel)) rfl, gG_mem (List.mem_of_getElem? (i := 806) (by decide +kernel)) rfl, gG_mem (List.mem_of_getElem? (i := 58) (by decide +kernel)) rfl⟩
theorem wL_176 : Cond.methodLink RL 176 yL_tryOven ∈ gG ∧ Cond.static yL_tryOven ∈ gG ∧ Cond.initialized (yL_tryOven).cls ∈ gG := ⟨gG_mem (List.mem_of_getElem? (i := 812) (by decide +kernel)) rfl, gG_mem (List.mem_of_getElem? (i := 813) (by decide +kernel)) rfl, gG_mem (List.mem_of_getElem? (i := 58) (by decide +kernel)) rfl⟩
theorem wL_179 : Cond.methodLink RL 179 yL_tryBest ∈ gG ∧ Cond.static yL_tryBest ∈ gG ∧ Cond.initialized (yL_tryBest).cls ∈ gG := ⟨gG_mem (List.mem_of_getElem? (i := 824) (by decide +kernel)) rfl, gG_mem (List.mem_of_getElem? (i := 825) (by decide +kernel)) rfl, gG_mem (List.mem_of_getElem? (i := 58) (by decide +kernel)) rfl⟩
theorem wL_182 : Cond.methodLink RL 182 yL_tryKeep ∈ gG ∧ Cond.static yL_tryKeep ∈ gG ∧ Cond.initialized (yL_tryKeep).cls ∈ gG := ⟨gG_mem (List.mem_of_getElem? (i := 843) (by decide +kernel)) rfl, gG_mem (List.mem_of_getElem? (i := 844) (by decide +kernel)) rfl, gG_mem (List.mem_of_getElem? (i := 58) (by decide +kernel)) rfl⟩
theorem wL_185 : Cond.methodLink RL 185 yL_tryBack ∈ gG ∧ Cond.static yL_tryBack ∈ gG ∧ Cond.initialized (yL_tryBack).cls ∈ gG := ⟨gG_mem (List.mem_of_getElem? (i := 853) (by decide +kernel)) rfl, gG_mem (List.mem_of_getElem? (i := 854) (by decide +kernel)) rfl, gG_mem (List.mem_of_getElem? (i := 58) (by decide +kernel)) rfl⟩
theorem wL_194 : Cond.methodLink RL 194 yL_dues ∈ gG ∧ Cond.static yL_dues ∈ gG ∧ Cond.initialized (yL_dues).cls ∈ gG := ⟨gG_mem (List.mem_of_getElem? (i := 868) (by decide +kernel)) rfl, gG_mem (List.mem_of_getElem? (i := 869) (by decide +kernel)) rfl, gG_mem (List.mem_of_getElem? (i := 58) (by decide +kernel)) rfl⟩
theorem wL_198 : Cond.methodLink RL 198 yL_closes ∈ gG ∧ Cond.static yL_closes ∈ gG ∧ Cond.initialized (yL_closes).cls ∈ gG := ⟨gG_mem (List.mem_of_getElem? (i := 889) (by decide +kernel)) rfl, gG_mem (List.mem_of_getElem? (i := 890) (by decide +kernel)) rfl, gG_mem (List.mem_of_getElem? (i := 58) (by decide +kernel)) rfl⟩
theorem wL_202 : Cond.methodLink RL 202 yL_doScript ∈ gG ∧ Cond.static yL_doScript ∈ gG ∧ Cond.initialized (yL_doScript).cls ∈ gG := ⟨gG_mem (List.mem_of_getElem? (i := 896) (by decide +kernel)) rfl, gG_mem (List.mem_of_getElem? (i := 897) (by decide +kernel)) rfl, gG_mem (List.mem_of_getElem? (i := 58) (by decide +kernel)) rfl⟩
theorem wL_208 : Cond.methodLink RL 208 yL_doSimulate ∈ gG ∧ Cond.static yL_doSimulate ∈ gG ∧ Cond.initialized (yL_doSimulate).cls ∈ gG := ⟨gG_mem (List.mem_of_getElem? (i := 917) (by decide +kernel)) rfl, gG_mem (List.mem_of_getElem? (i := 918) (by decide +kernel)) rfl, gG_mem (List.mem_of_getElem? (i := 58) (by decide +kernel)) rfl⟩
