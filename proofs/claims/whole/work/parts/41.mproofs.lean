/-! written by program: each method's bytecode does its function -/
set_option maxHeartbeats 4000000 in
set_option maxRecDepth 100000 in
theorem tX6_thrown (l : Launch) (G : gX) (u : gU) (hF : gFull u)  (m : gM) (o : gM × Int32) (h : fX6_thrown  m = some o)  : gMet l G u yX6_thrown (.code yX6_thrown cX6_thrown 1 (some .int)) rmX6_thrown [.ref 5693] m o.1 (some (.int o.2)) := by
  refine gMet_of (own := RX6) (k := 0) (by decide) rfl ⟨rfl, rfl⟩ (Nat.le_of_ble_eq_true rfl) [some (.ref 5693)] rfl (fun Y hG hu hnL hLn hRm he => ?_)
  subst hG hu hLn
  unfold fX6_thrown at h
  refine r_aload_n (pc := 0) dX6_thrown_0 rfl rfl ?_
  refine fX6_33 (pc := 1) dX6_thrown_1 (gO5 hF) h (fun x1 h => ?_)
  exact r_iretH dX6_thrown_4 h he
set_option maxHeartbeats 4000000 in
set_option maxRecDepth 100000 in
theorem tX6_refused (l : Launch) (G : gX) (u : gU) (hF : gFull u) (p1 : Int32) (m : gM) (o : gM × Int32) (h : fX6_refused p1 m = some o)  : gMet l G u yX6_refused (.code yX6_refused cX6_refused 2 (some .boolean)) rmX6_refused [.ref 5693, .int p1] m o.1 (some (.int o.2)) := by
  refine gMet_of (own := RX6) (k := 0) (by decide) rfl ⟨rfl, rfl⟩ (Nat.le_of_ble_eq_true rfl) [some (.ref 5693), some (.int p1)] rfl (fun Y hG hu hnL hLn hRm he => ?_)
  subst hG hu hLn
  unfold fX6_refused at h
  refine r_aload_n (pc := 0) dX6_refused_0 rfl rfl ?_
  refine r_iload_n (pc := 1) dX6_refused_1 rfl rfl ?_
  refine fX6_33p (pc := 2) dX6_refused_2 (gO5 hF) h (fun m1 h => ?_)
  refine r_iload_n (pc := 5) dX6_refused_5 rfl rfl ?_
  refine r_if_le (pc := 6) (tgt := 13) dX6_refused_6 (by decide) h (fun h => ?_) (fun h => ?_)
  · refine r_iconst (pc := 13) (v := 0) dX6_refused_13 (by decide) ?_
    exact r_zretH dX6_refused_14 rfl h he
  · refine r_iconst (pc := 9) (v := 1) dX6_refused_9 (by decide) ?_
    refine r_goto (pc := 10) (tgt := 14) dX6_refused_10 (by decide) ?_
    exact r_zretH dX6_refused_14 rfl h he
set_option maxHeartbeats 4000000 in
set_option maxRecDepth 100000 in
theorem tX6_in (l : Launch) (G : gX) (u : gU) (hF : gFull u) (p1 : Int64) (p2 : Int64) (p3 : Int64) (m : gM) (o : gM × Int32) (h : fX6_in p1 p2 p3 m = some o)  : gMet l G u yX6_in (.code yX6_in cX6_in 6 (some .boolean)) rmX6_in [.long p1, .long p2, .long p3] m o.1 (some (.int o.2)) := by
  refine gMet_of (own := RX6) (k := 0) (by decide) rfl ⟨rfl, rfl⟩ (Nat.le_of_ble_eq_true rfl) [some (.long p1), none, some (.long p2), none, some (.long p3), none] rfl (fun Y hG hu hnL hLn hRm he => ?_)
  subst hG hu hLn
  unfold fX6_in at h
  refine r_lload_n (pc := 0) dX6_in_0 rfl rfl ?_
  refine r_lload_n (pc := 1) dX6_in_1 rfl rfl ?_
  refine r_lcmp (pc := 2) dX6_in_2 ?_
  refine r_if_lt (pc := 3) (tgt := 17) dX6_in_3 (by decide) h (fun h => ?_) (fun h => ?_)
  · refine r_iconst (pc := 17) (v := 0) dX6_in_17 (by decide) ?_
    exact r_zretH dX6_in_18 rfl h he
  · refine r_lload_n (pc := 6) dX6_in_6 rfl rfl ?_
    refine r_lload (pc := 7) dX6_in_7 rfl ?_
    refine r_lcmp (pc := 9) dX6_in_9 ?_
    refine r_if_gt (pc := 10) (tgt := 17) dX6_in_10 (by decide) h (fun h => ?_) (fun h => ?_)
    · refine r_iconst (pc := 17) (v := 0) dX6_in_17 (by decide) ?_
      exact r_zretH dX6_in_18 rfl h he
    · refine r_iconst (pc := 13) (v := 1) dX6_in_13 (by decide) ?_
      refine r_goto (pc := 14) (tgt := 18) dX6_in_14 (by decide) ?_
      exact r_zretH dX6_in_18 rfl h he
set_option maxHeartbeats 4000000 in
set_option maxRecDepth 100000 in
theorem tX6_copyState (l : Launch) (G : gX) (u : gU) (hF : gFull u) (a1 a1n : Nat) (p2 : Int32) (a3 a3n : Nat) (p4 : Int32) (m : gM) (o : gM) (h : fX6_copyState a1 a1n p2 a3 a3n p4 m = some o) (h1 : gIn u a1 7 a1n) (h3 : gIn u a3 7 a3n) : gMet l G u yX6_copyState (.code yX6_copyState cX6_copyState 5 none) rmX6_copyState [.ref a1, .int p2, .ref a3, .int p4] m o none := by
  refine gMet_of (own := RX6) (k := 1) (by decide) rfl ⟨rfl, rfl⟩ (Nat.le_of_ble_eq_true rfl) [some (.ref a1), some (.int p2), some (.ref a3), some (.int p4), none] rfl (fun Y hG hu hnL hLn hRm he => ?_)
  subst hG hu hLn
  unfold fX6_copyState at h
  refine r_iconst (pc := 0) (v := 0) dX6_copyState_0 (by decide) ?_
  refine r_istore (pc := 1) dX6_copyState_1 (by rw [hnL]; decide) rfl ?_
  have L6 : ∀ (n4 : Nat) (v7 : Int32) (m8 : gM), fX6_copyState_L3 a1 a1n p2 a3 a3n p4 n4 v7 m8 = some o → AW Y cX6_copyState RX6 3 [some (.ref a1), some (.int p2), some (.ref a3), some (.int p4), some (.int v7)] [] m8 := by
    intro n4
    induction n4 with
    | zero =>
      intro v7 m8 h
      exact absurd h (by simp [fX6_copyState_L3])
    | succ n4 ih5 =>
      intro v7 m8 h
      rw [fX6_copyState_L3] at h
      refine r_iload (pc := 3) dX6_copyState_3 rfl ?_
      refine r_sipush (pc := 5) (v := 258) dX6_copyState_5 (by decide) ?_
      refine r_icmp_ge (pc := 8) (tgt := 29) dX6_copyState_8 (by decide) h (fun h => ?_) (fun h => ?_)
      · exact r_vretH dX6_copyState_29 h he
      · refine r_aload_n (pc := 11) dX6_copyState_11 rfl rfl ?_
        refine r_iload_n (pc := 12) dX6_copyState_12 rfl rfl ?_
        refine r_iload (pc := 13) dX6_copyState_13 rfl ?_
        refine r_iadd (pc := 15) dX6_copyState_15 ?_
        refine r_aload_n (pc := 16) dX6_copyState_16 rfl rfl ?_
        refine r_iload_n (pc := 17) dX6_copyState_17 rfl rfl ?_
        refine r_iload (pc := 18) dX6_copyState_18 rfl ?_
        refine r_iadd (pc := 20) dX6_copyState_20 ?_
        refine r_iald (pc := 21) dX6_copyState_21 h1 h (fun x9 h => ?_)
        refine r_iast (pc := 22) dX6_copyState_22 h3 h (fun m10 h => ?_)
        refine r_iinc (pc := 23) (d := 1) dX6_copyState_23 rfl (by decide) (by rw [hnL]; decide) h (fun x11 h => ?_)
        refine r_goto (pc := 26) (tgt := 3) dX6_copyState_26 (by decide) ?_
        exact r_mask [true, true, true, true, true] rfl (ih5 _ _ h)
  exact r_mask [true, true, true, true, true] rfl (L6 _ _ _ h)
set_option maxHeartbeats 4000000 in
set_option maxRecDepth 100000 in
theorem tX6_clear (l : Launch) (G : gX) (u : gU) (hF : gFull u) (a1 a1n : Nat) (m : gM) (o : gM) (h : fX6_clear a1 a1n m = some o) (h1 : gIn u a1 7 a1n) : gMet l G u yX6_clear (.code yX6_clear cX6_clear 2 none) rmX6_clear [.ref a1] m o none := by
  refine gMet_of (own := RX6) (k := 1) (by decide) rfl ⟨rfl, rfl⟩ (Nat.le_of_ble_eq_true rfl) [some (.ref a1), none] rfl (fun Y hG hu hnL hLn hRm he => ?_)
  subst hG hu hLn
  unfold fX6_clear at h
  refine r_iconst (pc := 0) (v := 0) dX6_clear_0 (by decide) ?_
  refine r_istore_n (pc := 1) dX6_clear_1 rfl (by rw [hnL]; decide) rfl ?_
  have L19 : ∀ (n17 : Nat) (v20 : Int32) (m21 : gM), fX6_clear_L2 a1 a1n n17 v20 m21 = some o → AW Y cX6_clear RX6 2 [some (.ref a1), some (.int v20)] [] m21 := by
    intro n17
    induction n17 with
    | zero =>
      intro v20 m21 h
      exact absurd h (by simp [fX6_clear_L2])
    | succ n17 ih18 =>
      intro v20 m21 h
      rw [fX6_clear_L2] at h
      refine r_iload_n (pc := 2) dX6_clear_2 rfl rfl ?_
      refine r_sipush (pc := 3) (v := 258) dX6_clear_3 (by decide) ?_
      refine r_icmp_ge (pc := 6) (tgt := 19) dX6_clear_6 (by decide) h (fun h => ?_) (fun h => ?_)
      · refine r_aload_n (pc := 19) dX6_clear_19 rfl rfl ?_
        refine r_bipush (pc := 20) (v := 11) dX6_clear_20 (by decide) ?_
        refine r_bipush (pc := 22) (v := 30) dX6_clear_22 (by decide) ?_
        refine r_iast (pc := 24) dX6_clear_24 h1 h (fun m22 h => ?_)
        refine r_aload_n (pc := 25) dX6_clear_25 rfl rfl ?_
        refine r_bipush (pc := 26) (v := 12) dX6_clear_26 (by decide) ?_
        refine r_iconst (pc := 28) (v := 1) dX6_clear_28 (by decide) ?_
        refine r_iast (pc := 29) dX6_clear_29 h1 h (fun m23 h => ?_)
        refine r_aload_n (pc := 30) dX6_clear_30 rfl rfl ?_
        refine r_bipush (pc := 31) (v := 13) dX6_clear_31 (by decide) ?_
        refine r_iconst (pc := 33) (v := 2) dX6_clear_33 (by decide) ?_
        refine r_iast (pc := 34) dX6_clear_34 h1 h (fun m24 h => ?_)
        refine r_aload_n (pc := 35) dX6_clear_35 rfl rfl ?_
        refine r_bipush (pc := 36) (v := 14) dX6_clear_36 (by decide) ?_
        refine r_bipush (pc := 38) (v := 10) dX6_clear_38 (by decide) ?_
        refine r_iast (pc := 40) dX6_clear_40 h1 h (fun m25 h => ?_)
        refine r_aload_n (pc := 41) dX6_clear_41 rfl rfl ?_
        refine r_bipush (pc := 42) (v := 15) dX6_clear_42 (by decide) ?_
        refine r_iconst (pc := 44) (v := 3) dX6_clear_44 (by decide) ?_
        refine r_iast (pc := 45) dX6_clear_45 h1 h (fun m26 h => ?_)
        refine r_iconst (pc := 46) (v := 0) dX6_clear_46 (by decide) ?_
        refine r_istore_n (pc := 47) dX6_clear_47 rfl (by rw [hnL]; decide) rfl ?_
        have L29 : ∀ (n27 : Nat) (v30 : Int32) (m31 : gM), fX6_clear_L48 a1 a1n (fX6_clear_L2 a1 a1n n17) n27 v30 m31 = some o → AW Y cX6_clear RX6 48 [some (.ref a1), some (.int v30)] [] m31 := by
          intro n27
          induction n27 with
          | zero =>
            intro v30 m31 h
            exact absurd h (by simp [fX6_clear_L48])
          | succ n27 ih28 =>
            intro v30 m31 h
            rw [fX6_clear_L48] at h
            refine r_iload_n (pc := 48) dX6_clear_48 rfl rfl ?_
            refine r_iconst (pc := 49) (v := 4) dX6_clear_49 (by decide) ?_
            refine r_icmp_ge (pc := 50) (tgt := 66) dX6_clear_50 (by decide) h (fun h => ?_) (fun h => ?_)
            · exact r_vretH dX6_clear_66 h he
            · refine r_aload_n (pc := 53) dX6_clear_53 rfl rfl ?_
              refine r_bipush (pc := 54) (v := 16) dX6_clear_54 (by decide) ?_
              refine r_iload_n (pc := 56) dX6_clear_56 rfl rfl ?_
              refine r_iadd (pc := 57) dX6_clear_57 ?_
              refine r_iload_n (pc := 58) dX6_clear_58 rfl rfl ?_
              refine r_iast (pc := 59) dX6_clear_59 h1 h (fun m32 h => ?_)
              refine r_iinc (pc := 60) (d := 1) dX6_clear_60 rfl (by decide) (by rw [hnL]; decide) h (fun x33 h => ?_)
              refine r_goto (pc := 63) (tgt := 48) dX6_clear_63 (by decide) ?_
              exact r_mask [true, true] rfl (ih28 _ _ h)
        exact r_mask [true, true] rfl (L29 _ _ _ h)
      · refine r_aload_n (pc := 9) dX6_clear_9 rfl rfl ?_
        refine r_iload_n (pc := 10) dX6_clear_10 rfl rfl ?_
        refine r_iconst (pc := 11) (v := 0) dX6_clear_11 (by decide) ?_
        refine r_iast (pc := 12) dX6_clear_12 h1 h (fun m34 h => ?_)
        refine r_iinc (pc := 13) (d := 1) dX6_clear_13 rfl (by decide) (by rw [hnL]; decide) h (fun x35 h => ?_)
        refine r_goto (pc := 16) (tgt := 2) dX6_clear_16 (by decide) ?_
        exact r_mask [true, true] rfl (ih18 _ _ h)
  exact r_mask [true, true] rfl (L19 _ _ _ h)
set_option maxHeartbeats 4000000 in
set_option maxRecDepth 100000 in
theorem tX6_of (l : Launch) (G : gX) (u : gU) (hF : gFull u) (a1 a1n : Nat) (p2 : Int32) (p3 : Int32) (m : gM) (o : gM × Int32) (h : fX6_of a1 a1n p2 p3 m = some o) (h1 : gIn u a1 7 a1n) : gMet l G u yX6_of (.code yX6_of cX6_of 3 (some .int)) rmX6_of [.ref a1, .int p2, .int p3] m o.1 (some (.int o.2)) := by
  refine gMet_of (own := RX6) (k := 0) (by decide) rfl ⟨rfl, rfl⟩ (Nat.le_of_ble_eq_true rfl) [some (.ref a1), some (.int p2), some (.int p3)] rfl (fun Y hG hu hnL hLn hRm he => ?_)
  subst hG hu hLn
  unfold fX6_of at h
  refine r_aload_n (pc := 0) dX6_of_0 rfl rfl ?_
  refine r_bipush (pc := 1) (v := 48) dX6_of_1 (by decide) ?_
  refine r_bipush (pc := 3) (v := 21) dX6_of_3 (by decide) ?_
  refine r_iload_n (pc := 5) dX6_of_5 rfl rfl ?_
  refine r_imul (pc := 6) dX6_of_6 ?_
  refine r_iadd (pc := 7) dX6_of_7 ?_
  refine r_iload_n (pc := 8) dX6_of_8 rfl rfl ?_
  refine r_iadd (pc := 9) dX6_of_9 ?_
  refine r_iald (pc := 10) dX6_of_10 h1 h (fun x1 h => ?_)
  exact r_iretH dX6_of_11 h he
set_option maxHeartbeats 4000000 in
set_option maxRecDepth 100000 in
theorem tX6_add (l : Launch) (G : gX) (u : gU) (hF : gFull u) (a1 a1n : Nat) (p2 : Int32) (p3 : Int32) (p4 : Int32) (m : gM) (o : gM) (h : fX6_add a1 a1n p2 p3 p4 m = some o) (h1 : gIn u a1 7 a1n) : gMet l G u yX6_add (.code yX6_add cX6_add 4 none) rmX6_add [.ref a1, .int p2, .int p3, .int p4] m o none := by
  refine gMet_of (own := RX6) (k := 0) (by decide) rfl ⟨rfl, rfl⟩ (Nat.le_of_ble_eq_true rfl) [some (.ref a1), some (.int p2), some (.int p3), some (.int p4)] rfl (fun Y hG hu hnL hLn hRm he => ?_)
  subst hG hu hLn
  unfold fX6_add at h
  refine r_aload_n (pc := 0) dX6_add_0 rfl rfl ?_
  refine r_bipush (pc := 1) (v := 48) dX6_add_1 (by decide) ?_
  refine r_bipush (pc := 3) (v := 21) dX6_add_3 (by decide) ?_
  refine r_iload_n (pc := 5) dX6_add_5 rfl rfl ?_
  refine r_imul (pc := 6) dX6_add_6 ?_
  refine r_iadd (pc := 7) dX6_add_7 ?_
  refine r_iload_n (pc := 8) dX6_add_8 rfl rfl ?_
  refine r_iadd (pc := 9) dX6_add_9 ?_
  refine r_dup2 (pc := 10) dX6_add_10 rfl rfl ?_
  refine r_iald (pc := 11) dX6_add_11 h1 h (fun x1 h => ?_)
  refine r_iload_n (pc := 12) dX6_add_12 rfl rfl ?_
  refine r_iadd (pc := 13) dX6_add_13 ?_
  refine r_iast (pc := 14) dX6_add_14 h1 h (fun m2 h => ?_)
  exact r_vretH dX6_add_15 h he
set_option maxHeartbeats 4000000 in
set_option maxRecDepth 100000 in
theorem tX6_isCustomer (l : Launch) (G : gX) (u : gU) (hF : gFull u) (a1 a1n : Nat) (p2 : Int32) (m : gM) (o : gM × Int32) (h : fX6_isCustomer a1 a1n p2 m = some o) (h1 : gIn u a1 7 a1n) : gMet l G u yX6_isCustomer (.code yX6_isCustomer cX6_isCustomer 2 (some .boolean)) rmX6_isCustomer [.ref a1, .int p2] m o.1 (some (.int o.2)) := by
  refine gMet_of (own := RX6) (k := 0) (by decide) rfl ⟨rfl, rfl⟩ (Nat.le_of_ble_eq_true rfl) [some (.ref a1), some (.int p2)] rfl (fun Y hG hu hnL hLn hRm he => ?_)
  subst hG hu hLn
  unfold fX6_isCustomer at h
  refine r_iload_n (pc := 0) dX6_isCustomer_0 rfl rfl ?_
  refine r_i2l (pc := 1) dX6_isCustomer_1 ?_
  refine r_lconst (pc := 2) (v := 0) dX6_isCustomer_2 (by decide) ?_
  refine r_aload_n (pc := 3) dX6_isCustomer_3 rfl rfl ?_
  refine r_iconst (pc := 4) (v := 0) dX6_isCustomer_4 (by decide) ?_
  refine r_iald (pc := 5) dX6_isCustomer_5 h1 h (fun x1 h => ?_)
  refine r_iconst (pc := 6) (v := 1) dX6_isCustomer_6 (by decide) ?_
  refine r_isub (pc := 7) dX6_isCustomer_7 ?_
  refine r_i2l (pc := 8) dX6_isCustomer_8 ?_
  obtain ⟨m2, x3, q4, h⟩ := gCl_some h
  refine r_callS (pc := 9) [.long _, .long _, .long _] (tX6_in _ _ _ hF _ _ _ _ _ q4) ⟨rfl, rfl⟩ cd_X6_in wX6_37 nm_X6_in rfl (by rw [hRm]; decide) rfl (Nat.le_of_ble_eq_true rfl) dX6_isCustomer_9 ?_
  exact r_zretH dX6_isCustomer_12 rfl h he
set_option maxHeartbeats 4000000 in
set_option maxRecDepth 100000 in
theorem tX6_isStreet (l : Launch) (G : gX) (u : gU) (hF : gFull u) (p1 : Int32) (m : gM) (o : gM × Int32) (h : fX6_isStreet p1 m = some o)  : gMet l G u yX6_isStreet (.code yX6_isStreet cX6_isStreet 1 (some .boolean)) rmX6_isStreet [.int p1] m o.1 (some (.int o.2)) := by
  refine gMet_of (own := RX6) (k := 0) (by decide) rfl ⟨rfl, rfl⟩ (Nat.le_of_ble_eq_true rfl) [some (.int p1)] rfl (fun Y hG hu hnL hLn hRm he => ?_)
  subst hG hu hLn
  unfold fX6_isStreet at h
  refine r_iload_n (pc := 0) dX6_isStreet_0 rfl rfl ?_
  refine r_i2l (pc := 1) dX6_isStreet_1 ?_
  refine r_lconst (pc := 2) (v := 0) dX6_isStreet_2 (by decide) ?_
  refine r_ldc2 (pc := 3) (v := 3) dX6_isStreet_3 cX6_41 ?_
  obtain ⟨m1, x2, q3, h⟩ := gCl_some h
  refine r_callS (pc := 6) [.long _, .long _, .long _] (tX6_in _ _ _ hF _ _ _ _ _ q3) ⟨rfl, rfl⟩ cd_X6_in wX6_37 nm_X6_in rfl (by rw [hRm]; decide) rfl (Nat.le_of_ble_eq_true rfl) dX6_isStreet_6 ?_
  exact r_zretH dX6_isStreet_9 rfl h he
set_option maxHeartbeats 4000000 in
set_option maxRecDepth 100000 in
theorem tX6_isWeekday (l : Launch) (G : gX) (u : gU) (hF : gFull u) (p1 : Int32) (m : gM) (o : gM × Int32) (h : fX6_isWeekday p1 m = some o)  : gMet l G u yX6_isWeekday (.code yX6_isWeekday cX6_isWeekday 1 (some .boolean)) rmX6_isWeekday [.int p1] m o.1 (some (.int o.2)) := by
  refine gMet_of (own := RX6) (k := 0) (by decide) rfl ⟨rfl, rfl⟩ (Nat.le_of_ble_eq_true rfl) [some (.int p1)] rfl (fun Y hG hu hnL hLn hRm he => ?_)
  subst hG hu hLn
  unfold fX6_isWeekday at h
  refine r_iload_n (pc := 0) dX6_isWeekday_0 rfl rfl ?_
  refine r_i2l (pc := 1) dX6_isWeekday_1 ?_
  refine r_lconst (pc := 2) (v := 0) dX6_isWeekday_2 (by decide) ?_
  refine r_ldc2 (pc := 3) (v := 6) dX6_isWeekday_3 cX6_43 ?_
  obtain ⟨m1, x2, q3, h⟩ := gCl_some h
  refine r_callS (pc := 6) [.long _, .long _, .long _] (tX6_in _ _ _ hF _ _ _ _ _ q3) ⟨rfl, rfl⟩ cd_X6_in wX6_37 nm_X6_in rfl (by rw [hRm]; decide) rfl (Nat.le_of_ble_eq_true rfl) dX6_isWeekday_6 ?_
  exact r_zretH dX6_isWeekday_9 rfl h he
set_option maxHeartbeats 4000000 in
set_option maxRecDepth 100000 in
theorem tX6_isSetting (l : Launch) (G : gX) (u : gU) (hF : gFull u) (p1 : Int32) (p2 : Int32) (m : gM) (o : gM × Int32) (h : fX6_isSetting p1 p2 m = some o)  : gMet l G u yX6_isSetting (.code yX6_isSetting cX6_isSetting 2 (some .boolean)) rmX6_isSetting [.int p1, .int p2] m o.1 (some (.int o.2)) := by
  refine gMet_of (own := RX6) (k := 0) (by decide) rfl ⟨rfl, rfl⟩ (Nat.le_of_ble_eq_true rfl) [some (.int p1), some (.int p2)] rfl (fun Y hG hu hnL hLn hRm he => ?_)
  subst hG hu hLn
  unfold fX6_isSetting at h
  refine r_iload_n (pc := 0) dX6_isSetting_0 rfl rfl ?_
  refine r_sw h (fun g1 h => ?_) (fun g1 h => ?_)
  · refine r_tabIn (pc := 1) (tgt := 36) (v := 0) dX6_isSetting_1 g1 (by decide) (by decide) rfl (by decide) ?_
    refine r_iload_n (pc := 36) dX6_isSetting_36 rfl rfl ?_
    refine r_i2l (pc := 37) dX6_isSetting_37 ?_
    refine r_lconst (pc := 38) (v := 0) dX6_isSetting_38 (by decide) ?_
    refine r_ldc2 (pc := 39) (v := 99) dX6_isSetting_39 cX6_45 ?_
    obtain ⟨m2, x3, q4, h⟩ := gCl_some h
    refine r_callS (pc := 42) [.long _, .long _, .long _] (tX6_in _ _ _ hF _ _ _ _ _ q4) ⟨rfl, rfl⟩ cd_X6_in wX6_37 nm_X6_in rfl (by rw [hRm]; decide) rfl (Nat.le_of_ble_eq_true rfl) dX6_isSetting_42 ?_
    exact r_zretH dX6_isSetting_45 rfl h he
  refine r_sw h (fun g5 h => ?_) (fun g5 h => ?_)
  · refine r_tabIn (pc := 1) (tgt := 46) (v := 1) dX6_isSetting_1 g5 (by decide) (by decide) rfl (by decide) ?_
    refine r_iload_n (pc := 46) dX6_isSetting_46 rfl rfl ?_
    refine r_i2l (pc := 47) dX6_isSetting_47 ?_
    refine r_lconst (pc := 48) (v := 0) dX6_isSetting_48 (by decide) ?_
    refine r_ldc2 (pc := 49) (v := 9) dX6_isSetting_49 cX6_47 ?_
    obtain ⟨m6, x7, q8, h⟩ := gCl_some h
    refine r_callS (pc := 52) [.long _, .long _, .long _] (tX6_in _ _ _ hF _ _ _ _ _ q8) ⟨rfl, rfl⟩ cd_X6_in wX6_37 nm_X6_in rfl (by rw [hRm]; decide) rfl (Nat.le_of_ble_eq_true rfl) dX6_isSetting_52 ?_
    exact r_zretH dX6_isSetting_55 rfl h he
  refine r_sw h (fun g9 h => ?_) (fun g9 h => ?_)
  · refine r_tabIn (pc := 1) (tgt := 46) (v := 2) dX6_isSetting_1 g9 (by decide) (by decide) rfl (by decide) ?_
    refine r_iload_n (pc := 46) dX6_isSetting_46 rfl rfl ?_
    refine r_i2l (pc := 47) dX6_isSetting_47 ?_
    refine r_lconst (pc := 48) (v := 0) dX6_isSetting_48 (by decide) ?_
    refine r_ldc2 (pc := 49) (v := 9) dX6_isSetting_49 cX6_47 ?_
    obtain ⟨m10, x11, q12, h⟩ := gCl_some h
    refine r_callS (pc := 52) [.long _, .long _, .long _] (tX6_in _ _ _ hF _ _ _ _ _ q12) ⟨rfl, rfl⟩ cd_X6_in wX6_37 nm_X6_in rfl (by rw [hRm]; decide) rfl (Nat.le_of_ble_eq_true rfl) dX6_isSetting_52 ?_
    exact r_zretH dX6_isSetting_55 rfl h he
  refine r_sw h (fun g13 h => ?_) (fun g13 h => ?_)
  · refine r_tabIn (pc := 1) (tgt := 56) (v := 3) dX6_isSetting_1 g13 (by decide) (by decide) rfl (by decide) ?_
    refine r_iload_n (pc := 56) dX6_isSetting_56 rfl rfl ?_
    refine r_i2l (pc := 57) dX6_isSetting_57 ?_
    refine r_lconst (pc := 58) (v := 0) dX6_isSetting_58 (by decide) ?_
    refine r_ldc2 (pc := 59) (v := 30) dX6_isSetting_59 cX6_49 ?_
    obtain ⟨m14, x15, q16, h⟩ := gCl_some h
    refine r_callS (pc := 62) [.long _, .long _, .long _] (tX6_in _ _ _ hF _ _ _ _ _ q16) ⟨rfl, rfl⟩ cd_X6_in wX6_37 nm_X6_in rfl (by rw [hRm]; decide) rfl (Nat.le_of_ble_eq_true rfl) dX6_isSetting_62 ?_
    exact r_zretH dX6_isSetting_65 rfl h he
  refine r_sw h (fun g17 h => ?_) (fun g17 h => ?_)
  · refine r_tabIn (pc := 1) (tgt := 66) (v := 4) dX6_isSetting_1 g17 (by decide) (by decide) rfl (by decide) ?_
    refine r_iload_n (pc := 66) dX6_isSetting_66 rfl rfl ?_
    refine r_i2l (pc := 67) dX6_isSetting_67 ?_
    refine r_lconst (pc := 68) (v := 1) dX6_isSetting_68 (by decide) ?_
    refine r_ldc2 (pc := 69) (v := 20) dX6_isSetting_69 cX6_51 ?_
    obtain ⟨m18, x19, q20, h⟩ := gCl_some h
    refine r_callS (pc := 72) [.long _, .long _, .long _] (tX6_in _ _ _ hF _ _ _ _ _ q20) ⟨rfl, rfl⟩ cd_X6_in wX6_37 nm_X6_in rfl (by rw [hRm]; decide) rfl (Nat.le_of_ble_eq_true rfl) dX6_isSetting_72 ?_
    exact r_zretH dX6_isSetting_75 rfl h he
  have g1n := gNe g1 (z := 0) (by decide)
  have g5n := gNe g5 (z := 1) (by decide)
  have g9n := gNe g9 (z := 2) (by decide)
  have g13n := gNe g13 (z := 3) (by decide)
  have g17n := gNe g17 (z := 4) (by decide)
  refine r_tabOut (pc := 1) (tgt := 76) dX6_isSetting_1 (by omega) (by decide) ?_
  refine r_iconst (pc := 76) (v := 0) dX6_isSetting_76 (by decide) ?_
  exact r_zretH dX6_isSetting_77 rfl h he
set_option maxHeartbeats 4000000 in
set_option maxRecDepth 100000 in
theorem tX6_isAway (l : Launch) (G : gX) (u : gU) (hF : gFull u) (a1 a1n : Nat) (p2 : Int32) (p3 : Int32) (m : gM) (o : gM × Int32) (h : fX6_isAway a1 a1n p2 p3 m = some o) (h1 : gIn u a1 7 a1n) : gMet l G u yX6_isAway (.code yX6_isAway cX6_isAway 5 (some .boolean)) rmX6_isAway [.ref a1, .int p2, .int p3] m o.1 (some (.int o.2)) := by
  refine gMet_of (own := RX6) (k := 2) (by decide) rfl ⟨rfl, rfl⟩ (Nat.le_of_ble_eq_true rfl) [some (.ref a1), some (.int p2), some (.int p3), none, none] rfl (fun Y hG hu hnL hLn hRm he => ?_)
  subst hG hu hLn
  unfold fX6_isAway at h
  refine r_iconst (pc := 0) (v := 0) dX6_isAway_0 (by decide) ?_
  refine r_istore_n (pc := 1) dX6_isAway_1 rfl (by rw [hnL]; decide) rfl ?_
  refine r_iconst (pc := 2) (v := 0) dX6_isAway_2 (by decide) ?_
  refine r_istore (pc := 3) dX6_isAway_3 (by rw [hnL]; decide) rfl ?_
  have L20 : ∀ (n18 : Nat) (v21 : Int32) (v22 : Int32) (m23 : gM), fX6_isAway_L5 a1 a1n p2 p3 n18 v21 v22 m23 = some o → AW Y cX6_isAway RX6 5 [some (.ref a1), some (.int p2), some (.int p3), some (.int v21), some (.int v22)] [] m23 := by
    intro n18
    induction n18 with
    | zero =>
      intro v21 v22 m23 h
      exact absurd h (by simp [fX6_isAway_L5])
    | succ n18 ih19 =>
      intro v21 v22 m23 h
      rw [fX6_isAway_L5] at h
      refine r_iload (pc := 5) dX6_isAway_5 rfl ?_
      refine r_aload_n (pc := 7) dX6_isAway_7 rfl rfl ?_
      refine r_iload_n (pc := 8) dX6_isAway_8 rfl rfl ?_
      refine r_bipush (pc := 9) (v := 14) dX6_isAway_9 (by decide) ?_
      obtain ⟨m24, x25, q26, h⟩ := gCl_some h
      refine r_callS (pc := 11) [.ref _, .int _, .int _] (tX6_of _ _ _ hF _ _ _ _ _ _ q26 h1) ⟨rfl, rfl⟩ cd_X6_of wX6_53 nm_X6_of rfl (by rw [hRm]; decide) rfl (Nat.le_of_ble_eq_true rfl) dX6_isAway_11 ?_
      refine r_icmp_ge (pc := 14) (tgt := 69) dX6_isAway_14 (by decide) h (fun h => ?_) (fun h => ?_)
      · refine r_iload_n (pc := 69) dX6_isAway_69 rfl rfl ?_
        exact r_zretH dX6_isAway_70 rfl h he
      · refine r_iload_n (pc := 17) dX6_isAway_17 rfl rfl ?_
        refine r_jnK h (fun (k29 : Int32 → gM → Option (gM × Int32)) => ∀ (x27 : Int32) (m28 : gM), k29 x27 m28 = some o → AW Y cX6_isAway RX6 62 [some (.ref a1), some (.int p2), some (.int p3), none, some (.int v22)] [.int x27] m28) (fun x27 m28 h => ?_) (fun k29 hJ30 h => ?_)
        · refine r_istore_n (pc := 62) dX6_isAway_62 rfl (by rw [hnL]; decide) rfl ?_
          refine r_iinc (pc := 63) (d := 1) dX6_isAway_63 rfl (by decide) (by rw [hnL]; decide) h (fun x31 h => ?_)
          refine r_goto (pc := 66) (tgt := 5) dX6_isAway_66 (by decide) ?_
          exact r_mask [true, true, true, true, true] rfl (ih19 _ _ _ h)
        · refine r_if_ne (pc := 18) (tgt := 57) dX6_isAway_18 (by decide) h (fun h => ?_) (fun h => ?_)
          · refine r_iconst (pc := 57) (v := 1) dX6_isAway_57 (by decide) ?_
            refine r_goto (pc := 58) (tgt := 62) dX6_isAway_58 (by decide) ?_
            exact r_mask [true, true, true, false, true] rfl (hJ30 _ _ h)
          · refine r_iload_n (pc := 21) dX6_isAway_21 rfl rfl ?_
            refine r_i2l (pc := 22) dX6_isAway_22 ?_
            refine r_aload_n (pc := 23) dX6_isAway_23 rfl rfl ?_
            refine r_iload_n (pc := 24) dX6_isAway_24 rfl rfl ?_
            refine r_bipush (pc := 25) (v := 15) dX6_isAway_25 (by decide) ?_
            refine r_iconst (pc := 27) (v := 2) dX6_isAway_27 (by decide) ?_
            refine r_iload (pc := 28) dX6_isAway_28 rfl ?_
            refine r_imul (pc := 30) dX6_isAway_30 ?_
            refine r_iadd (pc := 31) dX6_isAway_31 ?_
            obtain ⟨m32, x33, q34, h⟩ := gCl_some h
            refine r_callS (pc := 32) [.ref _, .int _, .int _] (tX6_of _ _ _ hF _ _ _ _ _ _ q34 h1) ⟨rfl, rfl⟩ cd_X6_of wX6_53 nm_X6_of rfl (by rw [hRm]; decide) rfl (Nat.le_of_ble_eq_true rfl) dX6_isAway_32 ?_
            refine r_i2l (pc := 35) dX6_isAway_35 ?_
            refine r_aload_n (pc := 36) dX6_isAway_36 rfl rfl ?_
            refine r_iload_n (pc := 37) dX6_isAway_37 rfl rfl ?_
            refine r_bipush (pc := 38) (v := 15) dX6_isAway_38 (by decide) ?_
            refine r_iconst (pc := 40) (v := 2) dX6_isAway_40 (by decide) ?_
            refine r_iload (pc := 41) dX6_isAway_41 rfl ?_
            refine r_imul (pc := 43) dX6_isAway_43 ?_
            refine r_iadd (pc := 44) dX6_isAway_44 ?_
            refine r_iconst (pc := 45) (v := 1) dX6_isAway_45 (by decide) ?_
            refine r_iadd (pc := 46) dX6_isAway_46 ?_
            obtain ⟨m35, x36, q37, h⟩ := gCl_some h
            refine r_callS (pc := 47) [.ref _, .int _, .int _] (tX6_of _ _ _ hF _ _ _ _ _ _ q37 h1) ⟨rfl, rfl⟩ cd_X6_of wX6_53 nm_X6_of rfl (by rw [hRm]; decide) rfl (Nat.le_of_ble_eq_true rfl) dX6_isAway_47 ?_
            refine r_i2l (pc := 50) dX6_isAway_50 ?_
            obtain ⟨m38, x39, q40, h⟩ := gCl_some h
            refine r_callS (pc := 51) [.long _, .long _, .long _] (tX6_in _ _ _ hF _ _ _ _ _ q40) ⟨rfl, rfl⟩ cd_X6_in wX6_37 nm_X6_in rfl (by rw [hRm]; decide) rfl (Nat.le_of_ble_eq_true rfl) dX6_isAway_51 ?_
            refine r_if_eq (pc := 54) (tgt := 61) dX6_isAway_54 (by decide) h (fun h => ?_) (fun h => ?_)
            · refine r_iconst (pc := 61) (v := 0) dX6_isAway_61 (by decide) ?_
              exact r_mask [true, true, true, false, true] rfl (hJ30 _ _ h)
            · refine r_iconst (pc := 57) (v := 1) dX6_isAway_57 (by decide) ?_
              refine r_goto (pc := 58) (tgt := 62) dX6_isAway_58 (by decide) ?_
              exact r_mask [true, true, true, false, true] rfl (hJ30 _ _ h)
  exact r_mask [true, true, true, true, true] rfl (L20 _ _ _ _ h)
set_option maxHeartbeats 4000000 in
set_option maxRecDepth 100000 in
theorem tX6_dueOn (l : Launch) (G : gX) (u : gU) (hF : gFull u) (a1 a1n : Nat) (p2 : Int32) (p3 : Int32) (m : gM) (o : gM × Int32) (h : fX6_dueOn a1 a1n p2 p3 m = some o) (h1 : gIn u a1 7 a1n) : gMet l G u yX6_dueOn (.code yX6_dueOn cX6_dueOn 3 (some .int)) rmX6_dueOn [.ref a1, .int p2, .int p3] m o.1 (some (.int o.2)) := by
  refine gMet_of (own := RX6) (k := 0) (by decide) rfl ⟨rfl, rfl⟩ (Nat.le_of_ble_eq_true rfl) [some (.ref a1), some (.int p2), some (.int p3)] rfl (fun Y hG hu hnL hLn hRm he => ?_)
  subst hG hu hLn
  unfold fX6_dueOn at h
  refine r_aload_n (pc := 0) dX6_dueOn_0 rfl rfl ?_
  refine r_iload_n (pc := 1) dX6_dueOn_1 rfl rfl ?_
  refine r_iload_n (pc := 2) dX6_dueOn_2 rfl rfl ?_
  obtain ⟨m1, x2, q3, h⟩ := gCl_some h
  refine r_callS (pc := 3) [.ref _, .int _, .int _] (tX6_isAway _ _ _ hF _ _ _ _ _ _ q3 h1) ⟨rfl, rfl⟩ cd_X6_isAway wX6_57 nm_X6_isAway rfl (by rw [hRm]; decide) rfl (Nat.le_of_ble_eq_true rfl) dX6_dueOn_3 ?_
  refine r_if_eq (pc := 6) (tgt := 13) dX6_dueOn_6 (by decide) h (fun h => ?_) (fun h => ?_)
  · refine r_aload_n (pc := 13) dX6_dueOn_13 rfl rfl ?_
    refine r_iload_n (pc := 14) dX6_dueOn_14 rfl rfl ?_
    refine r_iconst (pc := 15) (v := 1) dX6_dueOn_15 (by decide) ?_
    refine r_iload_n (pc := 16) dX6_dueOn_16 rfl rfl ?_
    refine r_bipush (pc := 17) (v := 7) dX6_dueOn_17 (by decide) ?_
    refine r_iremc (pc := 19) dX6_dueOn_19 (by decide) ?_
    refine r_iadd (pc := 20) dX6_dueOn_20 ?_
    obtain ⟨m4, x5, q6, h⟩ := gCl_some h
    refine r_callS (pc := 21) [.ref _, .int _, .int _] (tX6_of _ _ _ hF _ _ _ _ _ _ q6 h1) ⟨rfl, rfl⟩ cd_X6_of wX6_53 nm_X6_of rfl (by rw [hRm]; decide) rfl (Nat.le_of_ble_eq_true rfl) dX6_dueOn_21 ?_
    exact r_iretH dX6_dueOn_24 h he
  · refine r_iconst (pc := 9) (v := 0) dX6_dueOn_9 (by decide) ?_
    refine r_goto (pc := 10) (tgt := 24) dX6_dueOn_10 (by decide) ?_
    exact r_iretH dX6_dueOn_24 h he
set_option maxHeartbeats 4000000 in
set_option maxRecDepth 100000 in
theorem tX6_allDue (l : Launch) (G : gX) (u : gU) (hF : gFull u) (a1 a1n : Nat) (p2 : Int32) (m : gM) (o : gM × Int32) (h : fX6_allDue a1 a1n p2 m = some o) (h1 : gIn u a1 7 a1n) : gMet l G u yX6_allDue (.code yX6_allDue cX6_allDue 4 (some .int)) rmX6_allDue [.ref a1, .int p2] m o.1 (some (.int o.2)) := by
  refine gMet_of (own := RX6) (k := 2) (by decide) rfl ⟨rfl, rfl⟩ (Nat.le_of_ble_eq_true rfl) [some (.ref a1), some (.int p2), none, none] rfl (fun Y hG hu hnL hLn hRm he => ?_)
  subst hG hu hLn
  unfold fX6_allDue at h
  refine r_iconst (pc := 0) (v := 0) dX6_allDue_0 (by decide) ?_
  refine r_istore_n (pc := 1) dX6_allDue_1 rfl (by rw [hnL]; decide) rfl ?_
  refine r_iconst (pc := 2) (v := 0) dX6_allDue_2 (by decide) ?_
  refine r_istore_n (pc := 3) dX6_allDue_3 rfl (by rw [hnL]; decide) rfl ?_
  have L9 : ∀ (n7 : Nat) (v10 : Int32) (v11 : Int32) (m12 : gM), fX6_allDue_L4 a1 a1n p2 n7 v10 v11 m12 = some o → AW Y cX6_allDue RX6 4 [some (.ref a1), some (.int p2), some (.int v10), some (.int v11)] [] m12 := by
    intro n7
    induction n7 with
    | zero =>
      intro v10 v11 m12 h
      exact absurd h (by simp [fX6_allDue_L4])
    | succ n7 ih8 =>
      intro v10 v11 m12 h
      rw [fX6_allDue_L4] at h
      refine r_iload_n (pc := 4) dX6_allDue_4 rfl rfl ?_
      refine r_aload_n (pc := 5) dX6_allDue_5 rfl rfl ?_
      refine r_iconst (pc := 6) (v := 0) dX6_allDue_6 (by decide) ?_
      refine r_iald (pc := 7) dX6_allDue_7 h1 h (fun x13 h => ?_)
      refine r_icmp_ge (pc := 8) (tgt := 26) dX6_allDue_8 (by decide) h (fun h => ?_) (fun h => ?_)
      · refine r_iload_n (pc := 26) dX6_allDue_26 rfl rfl ?_
        exact r_iretH dX6_allDue_27 h he
      · refine r_iload_n (pc := 11) dX6_allDue_11 rfl rfl ?_
        refine r_aload_n (pc := 12) dX6_allDue_12 rfl rfl ?_
        refine r_iload_n (pc := 13) dX6_allDue_13 rfl rfl ?_
        refine r_iload_n (pc := 14) dX6_allDue_14 rfl rfl ?_
        obtain ⟨m14, x15, q16, h⟩ := gCl_some h
        refine r_callS (pc := 15) [.ref _, .int _, .int _] (tX6_dueOn _ _ _ hF _ _ _ _ _ _ q16 h1) ⟨rfl, rfl⟩ cd_X6_dueOn wX6_61 nm_X6_dueOn rfl (by rw [hRm]; decide) rfl (Nat.le_of_ble_eq_true rfl) dX6_allDue_15 ?_
        refine r_iadd (pc := 18) dX6_allDue_18 ?_
        refine r_istore_nL (pc := 19) dX6_allDue_19 rfl (by rw [hnL]; decide) h (fun x17 h => ?_)
        refine r_iinc (pc := 20) (d := 1) dX6_allDue_20 rfl (by decide) (by rw [hnL]; decide) h (fun x18 h => ?_)
        refine r_goto (pc := 23) (tgt := 4) dX6_allDue_23 (by decide) ?_
        exact r_mask [true, true, true, true] rfl (ih8 _ _ _ h)
  exact r_mask [true, true, true, true] rfl (L9 _ _ _ _ h)
set_option maxHeartbeats 4000000 in
set_option maxRecDepth 100000 in
theorem tX6_isOpen (l : Launch) (G : gX) (u : gU) (hF : gFull u) (a1 a1n : Nat) (p2 : Int32) (p3 : Int32) (m : gM) (o : gM × Int32) (h : fX6_isOpen a1 a1n p2 p3 m = some o) (h1 : gIn u a1 7 a1n) : gMet l G u yX6_isOpen (.code yX6_isOpen cX6_isOpen 3 (some .boolean)) rmX6_isOpen [.ref a1, .int p2, .int p3] m o.1 (some (.int o.2)) := by
  refine gMet_of (own := RX6) (k := 0) (by decide) rfl ⟨rfl, rfl⟩ (Nat.le_of_ble_eq_true rfl) [some (.ref a1), some (.int p2), some (.int p3)] rfl (fun Y hG hu hnL hLn hRm he => ?_)
  subst hG hu hLn
  unfold fX6_isOpen at h
  refine r_aload_n (pc := 0) dX6_isOpen_0 rfl rfl ?_
  refine r_bipush (pc := 1) (v := 20) dX6_isOpen_1 (by decide) ?_
  refine r_bipush (pc := 3) (v := 7) dX6_isOpen_3 (by decide) ?_
  refine r_aload_n (pc := 5) dX6_isOpen_5 rfl rfl ?_
  refine r_iload_n (pc := 6) dX6_isOpen_6 rfl rfl ?_
  refine r_iconst (pc := 7) (v := 0) dX6_isOpen_7 (by decide) ?_
  obtain ⟨m1, x2, q3, h⟩ := gCl_some h
  refine r_callS (pc := 8) [.ref _, .int _, .int _] (tX6_of _ _ _ hF _ _ _ _ _ _ q3 h1) ⟨rfl, rfl⟩ cd_X6_of wX6_53 nm_X6_of rfl (by rw [hRm]; decide) rfl (Nat.le_of_ble_eq_true rfl) dX6_isOpen_8 ?_
  refine r_imul (pc := 11) dX6_isOpen_11 ?_
  refine r_iadd (pc := 12) dX6_isOpen_12 ?_
  refine r_iload_n (pc := 13) dX6_isOpen_13 rfl rfl ?_
  refine r_bipush (pc := 14) (v := 7) dX6_isOpen_14 (by decide) ?_
  refine r_iremc (pc := 16) dX6_isOpen_16 (by decide) ?_
  refine r_iadd (pc := 17) dX6_isOpen_17 ?_
  refine r_iald (pc := 18) dX6_isOpen_18 h1 h (fun x4 h => ?_)
  refine r_if_ne (pc := 19) (tgt := 26) dX6_isOpen_19 (by decide) h (fun h => ?_) (fun h => ?_)
  · refine r_iconst (pc := 26) (v := 0) dX6_isOpen_26 (by decide) ?_
    exact r_zretH dX6_isOpen_27 rfl h he
  · refine r_iconst (pc := 22) (v := 1) dX6_isOpen_22 (by decide) ?_
    refine r_goto (pc := 23) (tgt := 27) dX6_isOpen_23 (by decide) ?_
    exact r_zretH dX6_isOpen_27 rfl h he
set_option maxHeartbeats 4000000 in
set_option maxRecDepth 100000 in
theorem tX6_credits (l : Launch) (G : gX) (u : gU) (hF : gFull u) (a1 a1n : Nat) (m : gM) (o : gM × Int32) (h : fX6_credits a1 a1n m = some o) (h1 : gIn u a1 7 a1n) : gMet l G u yX6_credits (.code yX6_credits cX6_credits 3 (some .int)) rmX6_credits [.ref a1] m o.1 (some (.int o.2)) := by
  refine gMet_of (own := RX6) (k := 2) (by decide) rfl ⟨rfl, rfl⟩ (Nat.le_of_ble_eq_true rfl) [some (.ref a1), none, none] rfl (fun Y hG hu hnL hLn hRm he => ?_)
  subst hG hu hLn
  unfold fX6_credits at h
  refine r_iconst (pc := 0) (v := 0) dX6_credits_0 (by decide) ?_
  refine r_istore_n (pc := 1) dX6_credits_1 rfl (by rw [hnL]; decide) rfl ?_
  refine r_iconst (pc := 2) (v := 0) dX6_credits_2 (by decide) ?_
  refine r_istore_n (pc := 3) dX6_credits_3 rfl (by rw [hnL]; decide) rfl ?_
  have L9 : ∀ (n7 : Nat) (v10 : Int32) (v11 : Int32) (m12 : gM), fX6_credits_L4 a1 a1n n7 v10 v11 m12 = some o → AW Y cX6_credits RX6 4 [some (.ref a1), some (.int v10), some (.int v11)] [] m12 := by
    intro n7
    induction n7 with
    | zero =>
      intro v10 v11 m12 h
      exact absurd h (by simp [fX6_credits_L4])
    | succ n7 ih8 =>
      intro v10 v11 m12 h
      rw [fX6_credits_L4] at h
      refine r_iload_n (pc := 4) dX6_credits_4 rfl rfl ?_
      refine r_aload_n (pc := 5) dX6_credits_5 rfl rfl ?_
      refine r_iconst (pc := 6) (v := 0) dX6_credits_6 (by decide) ?_
      refine r_iald (pc := 7) dX6_credits_7 h1 h (fun x13 h => ?_)
      refine r_icmp_ge (pc := 8) (tgt := 27) dX6_credits_8 (by decide) h (fun h => ?_) (fun h => ?_)
      · refine r_iload_n (pc := 27) dX6_credits_27 rfl rfl ?_
        exact r_iretH dX6_credits_28 h he
      · refine r_iload_n (pc := 11) dX6_credits_11 rfl rfl ?_
        refine r_aload_n (pc := 12) dX6_credits_12 rfl rfl ?_
        refine r_iload_n (pc := 13) dX6_credits_13 rfl rfl ?_
        refine r_bipush (pc := 14) (v := 8) dX6_credits_14 (by decide) ?_
        obtain ⟨m14, x15, q16, h⟩ := gCl_some h
        refine r_callS (pc := 16) [.ref _, .int _, .int _] (tX6_of _ _ _ hF _ _ _ _ _ _ q16 h1) ⟨rfl, rfl⟩ cd_X6_of wX6_53 nm_X6_of rfl (by rw [hRm]; decide) rfl (Nat.le_of_ble_eq_true rfl) dX6_credits_16 ?_
        refine r_iadd (pc := 19) dX6_credits_19 ?_
        refine r_istore_nL (pc := 20) dX6_credits_20 rfl (by rw [hnL]; decide) h (fun x17 h => ?_)
        refine r_iinc (pc := 21) (d := 1) dX6_credits_21 rfl (by decide) (by rw [hnL]; decide) h (fun x18 h => ?_)
        refine r_goto (pc := 24) (tgt := 4) dX6_credits_24 (by decide) ?_
        exact r_mask [true, true, true] rfl (ih8 _ _ _ h)
  exact r_mask [true, true, true] rfl (L9 _ _ _ _ h)
set_option maxHeartbeats 4000000 in
set_option maxRecDepth 100000 in
theorem tX6_baked (l : Launch) (G : gX) (u : gU) (hF : gFull u) (a1 a1n : Nat) (p2 : Int32) (m : gM) (o : gM × Int32) (h : fX6_baked a1 a1n p2 m = some o) (h1 : gIn u a1 7 a1n) : gMet l G u yX6_baked (.code yX6_baked cX6_baked 3 (some .int)) rmX6_baked [.ref a1, .int p2] m o.1 (some (.int o.2)) := by
  refine gMet_of (own := RX6) (k := 1) (by decide) rfl ⟨rfl, rfl⟩ (Nat.le_of_ble_eq_true rfl) [some (.ref a1), some (.int p2), none] rfl (fun Y hG hu hnL hLn hRm he => ?_)
  subst hG hu hLn
  unfold fX6_baked at h
  refine r_aload_n (pc := 0) dX6_baked_0 rfl rfl ?_
  refine r_iload_n (pc := 1) dX6_baked_1 rfl rfl ?_
  obtain ⟨m1, x2, q3, h⟩ := gCl_some h
  refine r_callS (pc := 2) [.ref _, .int _] (tX6_allDue _ _ _ hF _ _ _ _ _ q3 h1) ⟨rfl, rfl⟩ cd_X6_allDue wX6_64 nm_X6_allDue rfl (by rw [hRm]; decide) rfl (Nat.le_of_ble_eq_true rfl) dX6_baked_2 ?_
  refine r_aload_n (pc := 5) dX6_baked_5 rfl rfl ?_
  refine r_bipush (pc := 6) (v := 12) dX6_baked_6 (by decide) ?_
  refine r_iald (pc := 8) dX6_baked_8 h1 h (fun x4 h => ?_)
  refine r_iadd (pc := 9) dX6_baked_9 ?_
  refine r_istore_nL (pc := 10) dX6_baked_10 rfl (by rw [hnL]; decide) h (fun x5 h => ?_)
  refine r_iload_n (pc := 11) dX6_baked_11 rfl rfl ?_
  refine r_aload_n (pc := 12) dX6_baked_12 rfl rfl ?_
  refine r_bipush (pc := 13) (v := 11) dX6_baked_13 (by decide) ?_
  refine r_iald (pc := 15) dX6_baked_15 h1 h (fun x6 h => ?_)
  refine r_icmp_ge (pc := 16) (tgt := 23) dX6_baked_16 (by decide) h (fun h => ?_) (fun h => ?_)
  · refine r_aload_n (pc := 23) dX6_baked_23 rfl rfl ?_
    refine r_bipush (pc := 24) (v := 11) dX6_baked_24 (by decide) ?_
    refine r_iald (pc := 26) dX6_baked_26 h1 h (fun x7 h => ?_)
    exact r_iretH dX6_baked_27 h he
  · refine r_iload_n (pc := 19) dX6_baked_19 rfl rfl ?_
    refine r_goto (pc := 20) (tgt := 27) dX6_baked_20 (by decide) ?_
    exact r_iretH dX6_baked_27 h he
set_option maxHeartbeats 4000000 in
set_option maxRecDepth 100000 in
theorem tX6_placeOf (l : Launch) (G : gX) (u : gU) (hF : gFull u) (a1 a1n : Nat) (p2 : Int32) (m : gM) (o : gM × Int32) (h : fX6_placeOf a1 a1n p2 m = some o) (h1 : gIn u a1 7 a1n) : gMet l G u yX6_placeOf (.code yX6_placeOf cX6_placeOf 3 (some .int)) rmX6_placeOf [.ref a1, .int p2] m o.1 (some (.int o.2)) := by
  refine gMet_of (own := RX6) (k := 1) (by decide) rfl ⟨rfl, rfl⟩ (Nat.le_of_ble_eq_true rfl) [some (.ref a1), some (.int p2), none] rfl (fun Y hG hu hnL hLn hRm he => ?_)
  subst hG hu hLn
  unfold fX6_placeOf at h
  refine r_iconst (pc := 0) (v := 0) dX6_placeOf_0 (by decide) ?_
  refine r_istore_n (pc := 1) dX6_placeOf_1 rfl (by rw [hnL]; decide) rfl ?_
  have L5 : ∀ (n3 : Nat) (v6 : Int32) (m7 : gM), fX6_placeOf_L2 a1 a1n p2 n3 v6 m7 = some o → AW Y cX6_placeOf RX6 2 [some (.ref a1), some (.int p2), some (.int v6)] [] m7 := by
    intro n3
    induction n3 with
    | zero =>
      intro v6 m7 h
      exact absurd h (by simp [fX6_placeOf_L2])
    | succ n3 ih4 =>
      intro v6 m7 h
      rw [fX6_placeOf_L2] at h
      refine r_aload_n (pc := 2) dX6_placeOf_2 rfl rfl ?_
      refine r_bipush (pc := 3) (v := 16) dX6_placeOf_3 (by decide) ?_
      refine r_iload_n (pc := 5) dX6_placeOf_5 rfl rfl ?_
      refine r_iadd (pc := 6) dX6_placeOf_6 ?_
      refine r_iald (pc := 7) dX6_placeOf_7 h1 h (fun x8 h => ?_)
      refine r_iload_n (pc := 8) dX6_placeOf_8 rfl rfl ?_
      refine r_icmp_eq (pc := 9) (tgt := 18) dX6_placeOf_9 (by decide) h (fun h => ?_) (fun h => ?_)
      · refine r_iload_n (pc := 18) dX6_placeOf_18 rfl rfl ?_
        exact r_iretH dX6_placeOf_19 h he
      · refine r_iinc (pc := 12) (d := 1) dX6_placeOf_12 rfl (by decide) (by rw [hnL]; decide) h (fun x9 h => ?_)
        refine r_goto (pc := 15) (tgt := 2) dX6_placeOf_15 (by decide) ?_
        exact r_mask [true, true, true] rfl (ih4 _ _ h)
  exact r_mask [true, true, true] rfl (L5 _ _ _ h)
set_option maxHeartbeats 4000000 in
set_option maxRecDepth 100000 in
theorem tX6_inRound (l : Launch) (G : gX) (u : gU) (hF : gFull u) (a1 a1n : Nat) (p2 : Int32) (m : gM) (o : gM × Int32) (h : fX6_inRound a1 a1n p2 m = some o) (h1 : gIn u a1 7 a1n) : gMet l G u yX6_inRound (.code yX6_inRound cX6_inRound 5 (some .int)) rmX6_inRound [.ref a1, .int p2] m o.1 (some (.int o.2)) := by
  refine gMet_of (own := RX6) (k := 3) (by decide) rfl ⟨rfl, rfl⟩ (Nat.le_of_ble_eq_true rfl) [some (.ref a1), some (.int p2), none, none, none] rfl (fun Y hG hu hnL hLn hRm he => ?_)
  subst hG hu hLn
  unfold fX6_inRound at h
  refine r_iload_n (pc := 0) dX6_inRound_0 rfl rfl ?_
  refine r_istore_n (pc := 1) dX6_inRound_1 rfl (by rw [hnL]; decide) rfl ?_
  refine r_iconst (pc := 2) (v := 0) dX6_inRound_2 (by decide) ?_
  refine r_istore_n (pc := 3) dX6_inRound_3 rfl (by rw [hnL]; decide) rfl ?_
  have L27 : ∀ (n25 : Nat) (v28 : Int32) (v29 : Int32) (m30 : gM), fX6_inRound_L4 a1 a1n n25 v28 v29 m30 = some o → AW Y cX6_inRound RX6 4 [some (.ref a1), none, some (.int v28), some (.int v29), none] [] m30 := by
    intro n25
    induction n25 with
    | zero =>
      intro v28 v29 m30 h
      exact absurd h (by simp [fX6_inRound_L4])
    | succ n25 ih26 =>
      intro v28 v29 m30 h
      rw [fX6_inRound_L4] at h
      refine r_iload_n (pc := 4) dX6_inRound_4 rfl rfl ?_
      refine r_iconst (pc := 5) (v := 4) dX6_inRound_5 (by decide) ?_
      refine r_icmp_ge (pc := 6) (tgt := 58) dX6_inRound_6 (by decide) h (fun h => ?_) (fun h => ?_)
      · refine r_iconst (pc := 58) (v := (-1)) dX6_inRound_58 (by decide) ?_
        exact r_iretH dX6_inRound_59 h he
      · refine r_iconst (pc := 9) (v := 0) dX6_inRound_9 (by decide) ?_
        refine r_istore (pc := 10) dX6_inRound_10 (by rw [hnL]; decide) rfl ?_
        have L33 : ∀ (n31 : Nat) (v34 : Int32) (v35 : Int32) (m36 : gM), fX6_inRound_L12 a1 a1n v29 (fX6_inRound_L4 a1 a1n n25) n31 v34 v35 m36 = some o → AW Y cX6_inRound RX6 12 [some (.ref a1), none, some (.int v34), some (.int v29), some (.int v35)] [] m36 := by
          intro n31
          induction n31 with
          | zero =>
            intro v34 v35 m36 h
            exact absurd h (by simp [fX6_inRound_L12])
          | succ n31 ih32 =>
            intro v34 v35 m36 h
            rw [fX6_inRound_L12] at h
            refine r_iload (pc := 12) dX6_inRound_12 rfl ?_
            refine r_aload_n (pc := 14) dX6_inRound_14 rfl rfl ?_
            refine r_iconst (pc := 15) (v := 0) dX6_inRound_15 (by decide) ?_
            refine r_iald (pc := 16) dX6_inRound_16 h1 h (fun x37 h => ?_)
            refine r_icmp_ge (pc := 17) (tgt := 52) dX6_inRound_17 (by decide) h (fun h => ?_) (fun h => ?_)
            · refine r_iinc (pc := 52) (d := 1) dX6_inRound_52 rfl (by decide) (by rw [hnL]; decide) h (fun x38 h => ?_)
              refine r_goto (pc := 55) (tgt := 4) dX6_inRound_55 (by decide) ?_
              exact r_mask [true, false, true, true, false] rfl (ih26 _ _ _ h)
            · refine r_aload_n (pc := 20) dX6_inRound_20 rfl rfl ?_
              refine r_iload (pc := 21) dX6_inRound_21 rfl ?_
              refine r_iconst (pc := 23) (v := 0) dX6_inRound_23 (by decide) ?_
              obtain ⟨m39, x40, q41, h⟩ := gCl_some h
              refine r_callS (pc := 24) [.ref _, .int _, .int _] (tX6_of _ _ _ hF _ _ _ _ _ _ q41 h1) ⟨rfl, rfl⟩ cd_X6_of wX6_53 nm_X6_of rfl (by rw [hRm]; decide) rfl (Nat.le_of_ble_eq_true rfl) dX6_inRound_24 ?_
              refine r_aload_n (pc := 27) dX6_inRound_27 rfl rfl ?_
              refine r_bipush (pc := 28) (v := 16) dX6_inRound_28 (by decide) ?_
              refine r_iload_n (pc := 30) dX6_inRound_30 rfl rfl ?_
              refine r_iadd (pc := 31) dX6_inRound_31 ?_
              refine r_iald (pc := 32) dX6_inRound_32 h1 h (fun x42 h => ?_)
              refine r_icmp_ne (pc := 33) (tgt := 46) dX6_inRound_33 (by decide) h (fun h => ?_) (fun h => ?_)
              · refine r_iinc (pc := 46) (d := 1) dX6_inRound_46 rfl (by decide) (by rw [hnL]; decide) h (fun x43 h => ?_)
                refine r_goto (pc := 49) (tgt := 12) dX6_inRound_49 (by decide) ?_
                exact r_mask [true, false, true, true, true] rfl (ih32 _ _ _ h)
              · refine r_iload_n (pc := 36) dX6_inRound_36 rfl rfl ?_
                refine r_if_ne (pc := 37) (tgt := 43) dX6_inRound_37 (by decide) h (fun h => ?_) (fun h => ?_)
                · refine r_iinc (pc := 43) (d := (-1)) dX6_inRound_43 rfl (by decide) (by rw [hnL]; decide) h (fun x44 h => ?_)
                  refine r_iinc (pc := 46) (d := 1) dX6_inRound_46 rfl (by decide) (by rw [hnL]; decide) h (fun x45 h => ?_)
                  refine r_goto (pc := 49) (tgt := 12) dX6_inRound_49 (by decide) ?_
                  exact r_mask [true, false, true, true, true] rfl (ih32 _ _ _ h)
                · refine r_iload (pc := 40) dX6_inRound_40 rfl ?_
                  exact r_iretH dX6_inRound_42 h he
        exact r_mask [true, false, true, true, true] rfl (L33 _ _ _ _ h)
  exact r_mask [true, false, true, true, false] rfl (L27 _ _ _ _ h)
set_option maxHeartbeats 4000000 in
set_option maxRecDepth 100000 in
theorem tX6_giveDue (l : Launch) (G : gX) (u : gU) (hF : gFull u) (a1 a1n : Nat) (p2 : Int32) (p3 : Int32) (p4 : Int32) (m : gM) (o : gM × Int32) (h : fX6_giveDue a1 a1n p2 p3 p4 m = some o) (h1 : gIn u a1 7 a1n) : gMet l G u yX6_giveDue (.code yX6_giveDue cX6_giveDue 8 (some .int)) rmX6_giveDue [.ref a1, .int p2, .int p3, .int p4] m o.1 (some (.int o.2)) := by
  refine gMet_of (own := RX6) (k := 4) (by decide) rfl ⟨rfl, rfl⟩ (Nat.le_of_ble_eq_true rfl) [some (.ref a1), some (.int p2), some (.int p3), some (.int p4), none, none, none, none] rfl (fun Y hG hu hnL hLn hRm he => ?_)
  subst hG hu hLn
  unfold fX6_giveDue at h
  refine r_aload_n (pc := 0) dX6_giveDue_0 rfl rfl ?_
  refine r_iload_n (pc := 1) dX6_giveDue_1 rfl rfl ?_
  refine r_iload_n (pc := 2) dX6_giveDue_2 rfl rfl ?_
  obtain ⟨m1, x2, q3, h⟩ := gCl_some h
  refine r_callS (pc := 3) [.ref _, .int _, .int _] (tX6_dueOn _ _ _ hF _ _ _ _ _ _ q3 h1) ⟨rfl, rfl⟩ cd_X6_dueOn wX6_61 nm_X6_dueOn rfl (by rw [hRm]; decide) rfl (Nat.le_of_ble_eq_true rfl) dX6_giveDue_3 ?_
  refine r_istore (pc := 6) dX6_giveDue_6 (by rw [hnL]; decide) rfl ?_
  refine r_aload_n (pc := 8) dX6_giveDue_8 rfl rfl ?_
  refine r_iload_n (pc := 9) dX6_giveDue_9 rfl rfl ?_
  refine r_iload_n (pc := 10) dX6_giveDue_10 rfl rfl ?_
  obtain ⟨m4, x5, q6, h⟩ := gCl_some h
  refine r_callS (pc := 11) [.ref _, .int _, .int _] (tX6_isOpen _ _ _ hF _ _ _ _ _ _ q6 h1) ⟨rfl, rfl⟩ cd_X6_isOpen wX6_68 nm_X6_isOpen rfl (by rw [hRm]; decide) rfl (Nat.le_of_ble_eq_true rfl) dX6_giveDue_11 ?_
  refine r_jn1 h (fun x7 => AW Y cX6_giveDue RX6 33 [some (.ref a1), some (.int p2), none, some (.int p4), some (.int x2), none, none, none] [.int x7] m4) (fun x7 h => ?_) (fun hJ8 => ?_)
  · refine r_istore (pc := 33) dX6_giveDue_33 (by rw [hnL]; decide) rfl ?_
    refine r_aload_n (pc := 35) dX6_giveDue_35 rfl rfl ?_
    refine r_bipush (pc := 36) (v := 7) dX6_giveDue_36 (by decide) ?_
    refine r_dup2 (pc := 38) dX6_giveDue_38 rfl rfl ?_
    refine r_iald (pc := 39) dX6_giveDue_39 h1 h (fun x11 h => ?_)
    refine r_iload (pc := 40) dX6_giveDue_40 rfl ?_
    refine r_aload_n (pc := 42) dX6_giveDue_42 rfl rfl ?_
    refine r_bipush (pc := 43) (v := 15) dX6_giveDue_43 (by decide) ?_
    refine r_iald (pc := 45) dX6_giveDue_45 h1 h (fun x12 h => ?_)
    refine r_imul (pc := 46) dX6_giveDue_46 ?_
    refine r_iadd (pc := 47) dX6_giveDue_47 ?_
    refine r_iast (pc := 48) dX6_giveDue_48 h1 h (fun m13 h => ?_)
    refine r_aload_n (pc := 49) dX6_giveDue_49 rfl rfl ?_
    refine r_iconst (pc := 50) (v := 3) dX6_giveDue_50 (by decide) ?_
    refine r_dup2 (pc := 51) dX6_giveDue_51 rfl rfl ?_
    refine r_iald (pc := 52) dX6_giveDue_52 h1 h (fun x14 h => ?_)
    refine r_iload (pc := 53) dX6_giveDue_53 rfl ?_
    refine r_iadd (pc := 55) dX6_giveDue_55 ?_
    refine r_iast (pc := 56) dX6_giveDue_56 h1 h (fun m15 h => ?_)
    refine r_aload_n (pc := 57) dX6_giveDue_57 rfl rfl ?_
    refine r_iload_n (pc := 58) dX6_giveDue_58 rfl rfl ?_
    refine r_bipush (pc := 59) (v := 9) dX6_giveDue_59 (by decide) ?_
    refine r_iload (pc := 61) dX6_giveDue_61 rfl ?_
    obtain ⟨m16, q18, h⟩ := gCv_some h
    refine r_callS (pc := 63) [.ref _, .int _, .int _, .int _] (tX6_add _ _ _ hF _ _ _ _ _ _ _ q18 h1) ⟨rfl, rfl⟩ cd_X6_add wX6_71 nm_X6_add rfl (by rw [hRm]; decide) rfl (Nat.le_of_ble_eq_true rfl) dX6_giveDue_63 ?_
    refine r_aload_n (pc := 66) dX6_giveDue_66 rfl rfl ?_
    refine r_iload_n (pc := 67) dX6_giveDue_67 rfl rfl ?_
    refine r_bipush (pc := 68) (v := 8) dX6_giveDue_68 (by decide) ?_
    refine r_iload (pc := 70) dX6_giveDue_70 rfl ?_
    refine r_iload (pc := 72) dX6_giveDue_72 rfl ?_
    refine r_isub (pc := 74) dX6_giveDue_74 ?_
    obtain ⟨m19, q21, h⟩ := gCv_some h
    refine r_callS (pc := 75) [.ref _, .int _, .int _, .int _] (tX6_add _ _ _ hF _ _ _ _ _ _ _ q21 h1) ⟨rfl, rfl⟩ cd_X6_add wX6_71 nm_X6_add rfl (by rw [hRm]; decide) rfl (Nat.le_of_ble_eq_true rfl) dX6_giveDue_75 ?_
    refine r_iload (pc := 78) dX6_giveDue_78 rfl ?_
    refine r_jn1 h (fun x22 => AW Y cX6_giveDue RX6 93 [some (.ref a1), some (.int p2), none, some (.int p4), some (.int x2), some (.int x7), none, none] [.int x22] m19) (fun x22 h => ?_) (fun hJ23 => ?_)
    · refine r_istore (pc := 93) dX6_giveDue_93 (by rw [hnL]; decide) rfl ?_
      refine r_iload (pc := 95) dX6_giveDue_95 rfl ?_
      refine r_jn1 h (fun x26 => AW Y cX6_giveDue RX6 112 [some (.ref a1), some (.int p2), none, some (.int p4), none, some (.int x7), some (.int x22), none] [.int x26] m19) (fun x26 h => ?_) (fun hJ27 => ?_)
      · refine r_istore (pc := 112) dX6_giveDue_112 (by rw [hnL]; decide) rfl ?_
        refine r_aload_n (pc := 114) dX6_giveDue_114 rfl rfl ?_
        refine r_bipush (pc := 115) (v := 9) dX6_giveDue_115 (by decide) ?_
        refine r_dup2 (pc := 117) dX6_giveDue_117 rfl rfl ?_
        refine r_iald (pc := 118) dX6_giveDue_118 h1 h (fun x30 h => ?_)
        refine r_iload (pc := 119) dX6_giveDue_119 rfl ?_
        refine r_iadd (pc := 121) dX6_giveDue_121 ?_
        refine r_iast (pc := 122) dX6_giveDue_122 h1 h (fun m31 h => ?_)
        refine r_aload_n (pc := 123) dX6_giveDue_123 rfl rfl ?_
        refine r_bipush (pc := 124) (v := 10) dX6_giveDue_124 (by decide) ?_
        refine r_dup2 (pc := 126) dX6_giveDue_126 rfl rfl ?_
        refine r_iald (pc := 127) dX6_giveDue_127 h1 h (fun x32 h => ?_)
        refine r_iload (pc := 128) dX6_giveDue_128 rfl ?_
        refine r_iadd (pc := 130) dX6_giveDue_130 ?_
        refine r_iast (pc := 131) dX6_giveDue_131 h1 h (fun m33 h => ?_)
        refine r_aload_n (pc := 132) dX6_giveDue_132 rfl rfl ?_
        refine r_iload_n (pc := 133) dX6_giveDue_133 rfl rfl ?_
        refine r_bipush (pc := 134) (v := 12) dX6_giveDue_134 (by decide) ?_
        refine r_iload (pc := 136) dX6_giveDue_136 rfl ?_
        obtain ⟨m34, q36, h⟩ := gCv_some h
        refine r_callS (pc := 138) [.ref _, .int _, .int _, .int _] (tX6_add _ _ _ hF _ _ _ _ _ _ _ q36 h1) ⟨rfl, rfl⟩ cd_X6_add wX6_71 nm_X6_add rfl (by rw [hRm]; decide) rfl (Nat.le_of_ble_eq_true rfl) dX6_giveDue_138 ?_
        refine r_aload_n (pc := 141) dX6_giveDue_141 rfl rfl ?_
        refine r_iload_n (pc := 142) dX6_giveDue_142 rfl rfl ?_
        refine r_bipush (pc := 143) (v := 13) dX6_giveDue_143 (by decide) ?_
        refine r_iload (pc := 145) dX6_giveDue_145 rfl ?_
        obtain ⟨m37, q39, h⟩ := gCv_some h
        refine r_callS (pc := 147) [.ref _, .int _, .int _, .int _] (tX6_add _ _ _ hF _ _ _ _ _ _ _ q39 h1) ⟨rfl, rfl⟩ cd_X6_add wX6_71 nm_X6_add rfl (by rw [hRm]; decide) rfl (Nat.le_of_ble_eq_true rfl) dX6_giveDue_147 ?_
        refine r_iload_n (pc := 150) dX6_giveDue_150 rfl rfl ?_
        refine r_iload (pc := 151) dX6_giveDue_151 rfl ?_
        refine r_isub (pc := 153) dX6_giveDue_153 ?_
        exact r_iretH dX6_giveDue_154 h he
      · refine r_ifC_le (pc := 97) (tgt := 111) dX6_giveDue_97 (by decide) (fun g28 => ?_) (fun g28 => ?_)
        · refine r_iconst (pc := 111) (v := 0) dX6_giveDue_111 (by decide) ?_
          exact r_mask [true, true, false, true, false, true, true, false] rfl (hJ27 _ (by rw [if_pos g28]))
        · refine r_iload (pc := 100) dX6_giveDue_100 rfl ?_
          refine r_iload (pc := 102) dX6_giveDue_102 rfl ?_
          refine r_icmpC_ge (pc := 104) (tgt := 111) dX6_giveDue_104 (by decide) (fun g29 => ?_) (fun g29 => ?_)
          · refine r_iconst (pc := 111) (v := 0) dX6_giveDue_111 (by decide) ?_
            exact r_mask [true, true, false, true, false, true, true, false] rfl (hJ27 _ (by rw [if_neg g28, if_pos g29]))
          · refine r_iconst (pc := 107) (v := 1) dX6_giveDue_107 (by decide) ?_
            refine r_goto (pc := 108) (tgt := 112) dX6_giveDue_108 (by decide) ?_
            exact r_mask [true, true, false, true, false, true, true, false] rfl (hJ27 _ (by rw [if_neg g28, if_neg g29]))
    · refine r_ifC_le (pc := 80) (tgt := 92) dX6_giveDue_80 (by decide) (fun g24 => ?_) (fun g24 => ?_)
      · refine r_iconst (pc := 92) (v := 0) dX6_giveDue_92 (by decide) ?_
        exact r_mask [true, true, false, true, true, true, false, false] rfl (hJ23 _ (by rw [if_pos g24]))
      · refine r_iload (pc := 83) dX6_giveDue_83 rfl ?_
        refine r_ifC_ne (pc := 85) (tgt := 92) dX6_giveDue_85 (by decide) (fun g25 => ?_) (fun g25 => ?_)
        · refine r_iconst (pc := 92) (v := 0) dX6_giveDue_92 (by decide) ?_
          exact r_mask [true, true, false, true, true, true, false, false] rfl (hJ23 _ (by rw [if_neg g24, if_neg g25]))
        · refine r_iconst (pc := 88) (v := 1) dX6_giveDue_88 (by decide) ?_
          refine r_goto (pc := 89) (tgt := 93) dX6_giveDue_89 (by decide) ?_
          exact r_mask [true, true, false, true, true, true, false, false] rfl (hJ23 _ (by rw [if_neg g24, if_pos g25]))
  · refine r_ifC_ne (pc := 14) (tgt := 21) dX6_giveDue_14 (by decide) (fun g9 => ?_) (fun g9 => ?_)
    · refine r_iload (pc := 21) dX6_giveDue_21 rfl ?_
      refine r_iload_n (pc := 23) dX6_giveDue_23 rfl rfl ?_
      refine r_icmpC_ge (pc := 24) (tgt := 32) dX6_giveDue_24 (by decide) (fun g10 => ?_) (fun g10 => ?_)
      · refine r_iload_n (pc := 32) dX6_giveDue_32 rfl rfl ?_
        exact r_mask [true, true, false, true, true, false, false, false] rfl (hJ8 _ (by rw [if_neg g9, if_pos g10]))
      · refine r_iload (pc := 27) dX6_giveDue_27 rfl ?_
        refine r_goto (pc := 29) (tgt := 33) dX6_giveDue_29 (by decide) ?_
        exact r_mask [true, true, false, true, true, false, false, false] rfl (hJ8 _ (by rw [if_neg g9, if_neg g10]))
    · refine r_iconst (pc := 17) (v := 0) dX6_giveDue_17 (by decide) ?_
      refine r_goto (pc := 18) (tgt := 33) dX6_giveDue_18 (by decide) ?_
      exact r_mask [true, true, false, true, true, false, false, false] rfl (hJ8 _ (by rw [if_pos g9]))
set_option maxHeartbeats 4000000 in
set_option maxRecDepth 100000 in
theorem tX6_giveGood (l : Launch) (G : gX) (u : gU) (hF : gFull u) (a1 a1n : Nat) (p2 : Int32) (p3 : Int32) (p4 : Int32) (m : gM) (o : gM × Int32) (h : fX6_giveGood a1 a1n p2 p3 p4 m = some o) (h1 : gIn u a1 7 a1n) : gMet l G u yX6_giveGood (.code yX6_giveGood cX6_giveGood 7 (some .int)) rmX6_giveGood [.ref a1, .int p2, .int p3, .int p4] m o.1 (some (.int o.2)) := by
  refine gMet_of (own := RX6) (k := 3) (by decide) rfl ⟨rfl, rfl⟩ (Nat.le_of_ble_eq_true rfl) [some (.ref a1), some (.int p2), some (.int p3), some (.int p4), none, none, none] rfl (fun Y hG hu hnL hLn hRm he => ?_)
  subst hG hu hLn
  unfold fX6_giveGood at h
  refine r_aload_n (pc := 0) dX6_giveGood_0 rfl rfl ?_
  refine r_iload_n (pc := 1) dX6_giveGood_1 rfl rfl ?_
  refine r_iload_n (pc := 2) dX6_giveGood_2 rfl rfl ?_
  obtain ⟨m1, x2, q3, h⟩ := gCl_some h
  refine r_callS (pc := 3) [.ref _, .int _, .int _] (tX6_isOpen _ _ _ hF _ _ _ _ _ _ q3 h1) ⟨rfl, rfl⟩ cd_X6_isOpen wX6_68 nm_X6_isOpen rfl (by rw [hRm]; decide) rfl (Nat.le_of_ble_eq_true rfl) dX6_giveGood_3 ?_
  refine r_jnK h (fun (k6 : Int32 → gM → Option (gM × Int32)) => ∀ (x4 : Int32) (m5 : gM), k6 x4 m5 = some o → AW Y cX6_giveGood RX6 23 [some (.ref a1), some (.int p2), none, some (.int p4), none, none, none] [.int x4] m5) (fun x4 m5 h => ?_) (fun k6 hJ7 h => ?_)
  · refine r_istore (pc := 23) dX6_giveGood_23 (by rw [hnL]; decide) rfl ?_
    refine r_aload_n (pc := 25) dX6_giveGood_25 rfl rfl ?_
    refine r_iload_n (pc := 26) dX6_giveGood_26 rfl rfl ?_
    refine r_bipush (pc := 27) (v := 8) dX6_giveGood_27 (by decide) ?_
    obtain ⟨m8, x9, q10, h⟩ := gCl_some h
    refine r_callS (pc := 29) [.ref _, .int _, .int _] (tX6_of _ _ _ hF _ _ _ _ _ _ q10 h1) ⟨rfl, rfl⟩ cd_X6_of wX6_53 nm_X6_of rfl (by rw [hRm]; decide) rfl (Nat.le_of_ble_eq_true rfl) dX6_giveGood_29 ?_
    refine r_aload_n (pc := 32) dX6_giveGood_32 rfl rfl ?_
    refine r_bipush (pc := 33) (v := 13) dX6_giveGood_33 (by decide) ?_
    refine r_iald (pc := 35) dX6_giveGood_35 h1 h (fun x11 h => ?_)
    refine r_jnK h (fun (k14 : Int32 → gM → Option (gM × Int32)) => ∀ (x12 : Int32) (m13 : gM), k14 x12 m13 = some o → AW Y cX6_giveGood RX6 53 [some (.ref a1), some (.int p2), none, some (.int p4), some (.int x4), none, none] [.int x12] m13) (fun x12 m13 h => ?_) (fun k14 hJ15 h => ?_)
    · refine r_istore (pc := 53) dX6_giveGood_53 (by rw [hnL]; decide) rfl ?_
      refine r_iload (pc := 55) dX6_giveGood_55 rfl ?_
      refine r_jn1 h (fun x16 => AW Y cX6_giveGood RX6 76 [some (.ref a1), some (.int p2), none, some (.int p4), none, none, none] [.int x16] m13) (fun x16 h => ?_) (fun hJ17 => ?_)
      · refine r_istore (pc := 76) dX6_giveGood_76 (by rw [hnL]; decide) rfl ?_
        refine r_aload_n (pc := 78) dX6_giveGood_78 rfl rfl ?_
        refine r_iconst (pc := 79) (v := 4) dX6_giveGood_79 (by decide) ?_
        refine r_dup2 (pc := 80) dX6_giveGood_80 rfl rfl ?_
        refine r_iald (pc := 81) dX6_giveGood_81 h1 h (fun x20 h => ?_)
        refine r_iload (pc := 82) dX6_giveGood_82 rfl ?_
        refine r_iadd (pc := 84) dX6_giveGood_84 ?_
        refine r_iast (pc := 85) dX6_giveGood_85 h1 h (fun m21 h => ?_)
        refine r_aload_n (pc := 86) dX6_giveGood_86 rfl rfl ?_
        refine r_iload_n (pc := 87) dX6_giveGood_87 rfl rfl ?_
        refine r_bipush (pc := 88) (v := 10) dX6_giveGood_88 (by decide) ?_
        refine r_iload (pc := 90) dX6_giveGood_90 rfl ?_
        obtain ⟨m22, q24, h⟩ := gCv_some h
        refine r_callS (pc := 92) [.ref _, .int _, .int _, .int _] (tX6_add _ _ _ hF _ _ _ _ _ _ _ q24 h1) ⟨rfl, rfl⟩ cd_X6_add wX6_71 nm_X6_add rfl (by rw [hRm]; decide) rfl (Nat.le_of_ble_eq_true rfl) dX6_giveGood_92 ?_
        refine r_aload_n (pc := 95) dX6_giveGood_95 rfl rfl ?_
        refine r_iload_n (pc := 96) dX6_giveGood_96 rfl rfl ?_
        refine r_bipush (pc := 97) (v := 8) dX6_giveGood_97 (by decide) ?_
        refine r_iload (pc := 99) dX6_giveGood_99 rfl ?_
        refine r_ineg (pc := 101) dX6_giveGood_101 ?_
        obtain ⟨m25, q27, h⟩ := gCv_some h
        refine r_callS (pc := 102) [.ref _, .int _, .int _, .int _] (tX6_add _ _ _ hF _ _ _ _ _ _ _ q27 h1) ⟨rfl, rfl⟩ cd_X6_add wX6_71 nm_X6_add rfl (by rw [hRm]; decide) rfl (Nat.le_of_ble_eq_true rfl) dX6_giveGood_102 ?_
        refine r_iload_n (pc := 105) dX6_giveGood_105 rfl rfl ?_
        refine r_iload (pc := 106) dX6_giveGood_106 rfl ?_
        refine r_isub (pc := 108) dX6_giveGood_108 ?_
        exact r_iretH dX6_giveGood_109 h he
      · refine r_ifC_ne (pc := 57) (tgt := 64) dX6_giveGood_57 (by decide) (fun g18 => ?_) (fun g18 => ?_)
        · refine r_iload (pc := 64) dX6_giveGood_64 rfl ?_
          refine r_iload_n (pc := 66) dX6_giveGood_66 rfl rfl ?_
          refine r_icmpC_ge (pc := 67) (tgt := 75) dX6_giveGood_67 (by decide) (fun g19 => ?_) (fun g19 => ?_)
          · refine r_iload_n (pc := 75) dX6_giveGood_75 rfl rfl ?_
            exact r_mask [true, true, false, true, false, false, false] rfl (hJ17 _ (by rw [if_neg g18, if_pos g19]))
          · refine r_iload (pc := 70) dX6_giveGood_70 rfl ?_
            refine r_goto (pc := 72) (tgt := 76) dX6_giveGood_72 (by decide) ?_
            exact r_mask [true, true, false, true, false, false, false] rfl (hJ17 _ (by rw [if_neg g18, if_neg g19]))
        · refine r_iconst (pc := 60) (v := 0) dX6_giveGood_60 (by decide) ?_
          refine r_goto (pc := 61) (tgt := 76) dX6_giveGood_61 (by decide) ?_
          exact r_mask [true, true, false, true, false, false, false] rfl (hJ17 _ (by rw [if_pos g18]))
    · refine r_icmp_ge (pc := 36) (tgt := 49) dX6_giveGood_36 (by decide) h (fun h => ?_) (fun h => ?_)
      · refine r_aload_n (pc := 49) dX6_giveGood_49 rfl rfl ?_
        refine r_bipush (pc := 50) (v := 13) dX6_giveGood_50 (by decide) ?_
        refine r_iald (pc := 52) dX6_giveGood_52 h1 h (fun x28 h => ?_)
        exact r_mask [true, true, false, true, true, false, false] rfl (hJ15 _ _ h)
      · refine r_aload_n (pc := 39) dX6_giveGood_39 rfl rfl ?_
        refine r_iload_n (pc := 40) dX6_giveGood_40 rfl rfl ?_
        refine r_bipush (pc := 41) (v := 8) dX6_giveGood_41 (by decide) ?_
        obtain ⟨m29, x30, q31, h⟩ := gCl_some h
        refine r_callS (pc := 43) [.ref _, .int _, .int _] (tX6_of _ _ _ hF _ _ _ _ _ _ q31 h1) ⟨rfl, rfl⟩ cd_X6_of wX6_53 nm_X6_of rfl (by rw [hRm]; decide) rfl (Nat.le_of_ble_eq_true rfl) dX6_giveGood_43 ?_
        refine r_goto (pc := 46) (tgt := 53) dX6_giveGood_46 (by decide) ?_
        exact r_mask [true, true, false, true, true, false, false] rfl (hJ15 _ _ h)
  · refine r_if_eq (pc := 6) (tgt := 22) dX6_giveGood_6 (by decide) h (fun h => ?_) (fun h => ?_)
    · refine r_iconst (pc := 22) (v := 0) dX6_giveGood_22 (by decide) ?_
      exact r_mask [true, true, false, true, false, false, false] rfl (hJ7 _ _ h)
    · refine r_aload_n (pc := 9) dX6_giveGood_9 rfl rfl ?_
      refine r_iload_n (pc := 10) dX6_giveGood_10 rfl rfl ?_
      refine r_iload_n (pc := 11) dX6_giveGood_11 rfl rfl ?_
      obtain ⟨m32, x33, q34, h⟩ := gCl_some h
      refine r_callS (pc := 12) [.ref _, .int _, .int _] (tX6_isAway _ _ _ hF _ _ _ _ _ _ q34 h1) ⟨rfl, rfl⟩ cd_X6_isAway wX6_57 nm_X6_isAway rfl (by rw [hRm]; decide) rfl (Nat.le_of_ble_eq_true rfl) dX6_giveGood_12 ?_
      refine r_if_ne (pc := 15) (tgt := 22) dX6_giveGood_15 (by decide) h (fun h => ?_) (fun h => ?_)
      · refine r_iconst (pc := 22) (v := 0) dX6_giveGood_22 (by decide) ?_
        exact r_mask [true, true, false, true, false, false, false] rfl (hJ7 _ _ h)
      · refine r_iconst (pc := 18) (v := 1) dX6_giveGood_18 (by decide) ?_
        refine r_goto (pc := 19) (tgt := 23) dX6_giveGood_19 (by decide) ?_
        exact r_mask [true, true, false, true, false, false, false] rfl (hJ7 _ _ h)
set_option maxHeartbeats 4000000 in
set_option maxRecDepth 100000 in
theorem tX6_payBack (l : Launch) (G : gX) (u : gU) (hF : gFull u) (a1 a1n : Nat) (p2 : Int32) (m : gM) (o : gM) (h : fX6_payBack a1 a1n p2 m = some o) (h1 : gIn u a1 7 a1n) : gMet l G u yX6_payBack (.code yX6_payBack cX6_payBack 3 none) rmX6_payBack [.ref a1, .int p2] m o none := by
  refine gMet_of (own := RX6) (k := 1) (by decide) rfl ⟨rfl, rfl⟩ (Nat.le_of_ble_eq_true rfl) [some (.ref a1), some (.int p2), none] rfl (fun Y hG hu hnL hLn hRm he => ?_)
  subst hG hu hLn
  unfold fX6_payBack at h
  refine r_aload_n (pc := 0) dX6_payBack_0 rfl rfl ?_
  refine r_iload_n (pc := 1) dX6_payBack_1 rfl rfl ?_
  refine r_bipush (pc := 2) (v := 8) dX6_payBack_2 (by decide) ?_
  obtain ⟨m1, x2, q3, h⟩ := gCl_some h
  refine r_callS (pc := 4) [.ref _, .int _, .int _] (tX6_of _ _ _ hF _ _ _ _ _ _ q3 h1) ⟨rfl, rfl⟩ cd_X6_of wX6_53 nm_X6_of rfl (by rw [hRm]; decide) rfl (Nat.le_of_ble_eq_true rfl) dX6_payBack_4 ?_
  refine r_aload_n (pc := 7) dX6_payBack_7 rfl rfl ?_
  refine r_bipush (pc := 8) (v := 14) dX6_payBack_8 (by decide) ?_
  refine r_iald (pc := 10) dX6_payBack_10 h1 h (fun x4 h => ?_)
  refine r_isub (pc := 11) dX6_payBack_11 ?_
  refine r_istore_nL (pc := 12) dX6_payBack_12 rfl (by rw [hnL]; decide) h (fun x5 h => ?_)
  refine r_iload_n (pc := 13) dX6_payBack_13 rfl rfl ?_
  refine r_if_le (pc := 14) (tgt := 55) dX6_payBack_14 (by decide) h (fun h => ?_) (fun h => ?_)
  · exact r_vretH dX6_payBack_55 h he
  · refine r_aload_n (pc := 17) dX6_payBack_17 rfl rfl ?_
    refine r_iload_n (pc := 18) dX6_payBack_18 rfl rfl ?_
    refine r_bipush (pc := 19) (v := 8) dX6_payBack_19 (by decide) ?_
    refine r_iload_n (pc := 21) dX6_payBack_21 rfl rfl ?_
    refine r_ineg (pc := 22) dX6_payBack_22 ?_
    obtain ⟨m6, q8, h⟩ := gCv_some h
    refine r_callS (pc := 23) [.ref _, .int _, .int _, .int _] (tX6_add _ _ _ hF _ _ _ _ _ _ _ q8 h1) ⟨rfl, rfl⟩ cd_X6_add wX6_71 nm_X6_add rfl (by rw [hRm]; decide) rfl (Nat.le_of_ble_eq_true rfl) dX6_payBack_23 ?_
    refine r_aload_n (pc := 26) dX6_payBack_26 rfl rfl ?_
    refine r_iload_n (pc := 27) dX6_payBack_27 rfl rfl ?_
    refine r_bipush (pc := 28) (v := 11) dX6_payBack_28 (by decide) ?_
    refine r_iload_n (pc := 30) dX6_payBack_30 rfl rfl ?_
    obtain ⟨m9, q11, h⟩ := gCv_some h
    refine r_callS (pc := 31) [.ref _, .int _, .int _, .int _] (tX6_add _ _ _ hF _ _ _ _ _ _ _ q11 h1) ⟨rfl, rfl⟩ cd_X6_add wX6_71 nm_X6_add rfl (by rw [hRm]; decide) rfl (Nat.le_of_ble_eq_true rfl) dX6_payBack_31 ?_
    refine r_aload_n (pc := 34) dX6_payBack_34 rfl rfl ?_
    refine r_bipush (pc := 35) (v := 6) dX6_payBack_35 (by decide) ?_
    refine r_dup2 (pc := 37) dX6_payBack_37 rfl rfl ?_
    refine r_iald (pc := 38) dX6_payBack_38 h1 h (fun x12 h => ?_)
    refine r_iload_n (pc := 39) dX6_payBack_39 rfl rfl ?_
    refine r_iadd (pc := 40) dX6_payBack_40 ?_
    refine r_iast (pc := 41) dX6_payBack_41 h1 h (fun m13 h => ?_)
    refine r_aload_n (pc := 42) dX6_payBack_42 rfl rfl ?_
    refine r_bipush (pc := 43) (v := 8) dX6_payBack_43 (by decide) ?_
    refine r_dup2 (pc := 45) dX6_payBack_45 rfl rfl ?_
    refine r_iald (pc := 46) dX6_payBack_46 h1 h (fun x14 h => ?_)
    refine r_iload_n (pc := 47) dX6_payBack_47 rfl rfl ?_
    refine r_aload_n (pc := 48) dX6_payBack_48 rfl rfl ?_
    refine r_bipush (pc := 49) (v := 15) dX6_payBack_49 (by decide) ?_
    refine r_iald (pc := 51) dX6_payBack_51 h1 h (fun x15 h => ?_)
    refine r_imul (pc := 52) dX6_payBack_52 ?_
    refine r_iadd (pc := 53) dX6_payBack_53 ?_
    refine r_iast (pc := 54) dX6_payBack_54 h1 h (fun m16 h => ?_)
    exact r_vretH dX6_payBack_55 h he
set_option maxHeartbeats 4000000 in
set_option maxRecDepth 100000 in
theorem tX6_day (l : Launch) (G : gX) (u : gU) (hF : gFull u) (a1 a1n : Nat) (m : gM) (o : gM) (h : fX6_day a1 a1n m = some o) (h1 : gIn u a1 7 a1n) : gMet l G u yX6_day (.code yX6_day cX6_day 4 none) rmX6_day [.ref a1] m o none := by
  refine gMet_of (own := RX6) (k := 3) (by decide) rfl ⟨rfl, rfl⟩ (Nat.le_of_ble_eq_true rfl) [some (.ref a1), none, none, none] rfl (fun Y hG hu hnL hLn hRm he => ?_)
  subst hG hu hLn
  unfold fX6_day at h
  refine r_aload_n (pc := 0) dX6_day_0 rfl rfl ?_
  refine r_iconst (pc := 1) (v := 1) dX6_day_1 (by decide) ?_
  refine r_iald (pc := 2) dX6_day_2 h1 h (fun x1 h => ?_)
  refine r_istore_n (pc := 3) dX6_day_3 rfl (by rw [hnL]; decide) rfl ?_
  refine r_aload_n (pc := 4) dX6_day_4 rfl rfl ?_
  refine r_iload_n (pc := 5) dX6_day_5 rfl rfl ?_
  obtain ⟨m2, x3, q4, h⟩ := gCl_some h
  refine r_callS (pc := 6) [.ref _, .int _] (tX6_baked _ _ _ hF _ _ _ _ _ q4 h1) ⟨rfl, rfl⟩ cd_X6_baked wX6_75 nm_X6_baked rfl (by rw [hRm]; decide) rfl (Nat.le_of_ble_eq_true rfl) dX6_day_6 ?_
  refine r_istore_n (pc := 9) dX6_day_9 rfl (by rw [hnL]; decide) rfl ?_
  refine r_aload_n (pc := 10) dX6_day_10 rfl rfl ?_
  refine r_iconst (pc := 11) (v := 2) dX6_day_11 (by decide) ?_
  refine r_dup2 (pc := 12) dX6_day_12 rfl rfl ?_
  refine r_iald (pc := 13) dX6_day_13 h1 h (fun x5 h => ?_)
  refine r_iload_n (pc := 14) dX6_day_14 rfl rfl ?_
  refine r_iadd (pc := 15) dX6_day_15 ?_
  refine r_iast (pc := 16) dX6_day_16 h1 h (fun m6 h => ?_)
  refine r_iconst (pc := 17) (v := 0) dX6_day_17 (by decide) ?_
  refine r_istore_n (pc := 18) dX6_day_18 rfl (by rw [hnL]; decide) rfl ?_
  have L74 : ∀ (n72 : Nat) (v75 : Int32) (v76 : Int32) (m77 : gM), fX6_day_L19 a1 a1n x1 n72 v75 v76 m77 = some o → AW Y cX6_day RX6 19 [some (.ref a1), some (.int x1), some (.int v75), some (.int v76)] [] m77 := by
    intro n72
    induction n72 with
    | zero =>
      intro v75 v76 m77 h
      exact absurd h (by simp [fX6_day_L19])
    | succ n72 ih73 =>
      intro v75 v76 m77 h
      rw [fX6_day_L19] at h
      refine r_iload_n (pc := 19) dX6_day_19 rfl rfl ?_
      refine r_aload_n (pc := 20) dX6_day_20 rfl rfl ?_
      refine r_iconst (pc := 21) (v := 0) dX6_day_21 (by decide) ?_
      refine r_iald (pc := 22) dX6_day_22 h1 h (fun x78 h => ?_)
      refine r_icmp_ge (pc := 23) (tgt := 44) dX6_day_23 (by decide) h (fun h => ?_) (fun h => ?_)
      · refine r_iconst (pc := 44) (v := 0) dX6_day_44 (by decide) ?_
        refine r_istore_n (pc := 45) dX6_day_45 rfl (by rw [hnL]; decide) rfl ?_
        have L81 : ∀ (n79 : Nat) (v82 : Int32) (v83 : Int32) (m84 : gM), fX6_day_L46 a1 a1n x1 (fX6_day_L19 a1 a1n x1 n72) n79 v82 v83 m84 = some o → AW Y cX6_day RX6 46 [some (.ref a1), some (.int x1), some (.int v82), some (.int v83)] [] m84 := by
          intro n79
          induction n79 with
          | zero =>
            intro v82 v83 m84 h
            exact absurd h (by simp [fX6_day_L46])
          | succ n79 ih80 =>
            intro v82 v83 m84 h
            rw [fX6_day_L46] at h
            refine r_iload_n (pc := 46) dX6_day_46 rfl rfl ?_
            refine r_aload_n (pc := 47) dX6_day_47 rfl rfl ?_
            refine r_iconst (pc := 48) (v := 0) dX6_day_48 (by decide) ?_
            refine r_iald (pc := 49) dX6_day_49 h1 h (fun x85 h => ?_)
            refine r_icmp_ge (pc := 50) (tgt := 71) dX6_day_50 (by decide) h (fun h => ?_) (fun h => ?_)
            · refine r_aload_n (pc := 71) dX6_day_71 rfl rfl ?_
              refine r_iconst (pc := 72) (v := 5) dX6_day_72 (by decide) ?_
              refine r_dup2 (pc := 73) dX6_day_73 rfl rfl ?_
              refine r_iald (pc := 74) dX6_day_74 h1 h (fun x86 h => ?_)
              refine r_iload_n (pc := 75) dX6_day_75 rfl rfl ?_
              refine r_iadd (pc := 76) dX6_day_76 ?_
              refine r_iast (pc := 77) dX6_day_77 h1 h (fun m87 h => ?_)
              refine r_iconst (pc := 78) (v := 0) dX6_day_78 (by decide) ?_
              refine r_istore_n (pc := 79) dX6_day_79 rfl (by rw [hnL]; decide) rfl ?_
              have L90 : ∀ (n88 : Nat) (v91 : Int32) (m92 : gM), fX6_day_L80 a1 a1n (fX6_day_L19 a1 a1n x1 n72) (fX6_day_L46 a1 a1n x1 (fX6_day_L19 a1 a1n x1 n72) n79) n88 v91 m92 = some o → AW Y cX6_day RX6 80 [some (.ref a1), none, none, some (.int v91)] [] m92 := by
                intro n88
                induction n88 with
                | zero =>
                  intro v91 m92 h
                  exact absurd h (by simp [fX6_day_L80])
                | succ n88 ih89 =>
                  intro v91 m92 h
                  rw [fX6_day_L80] at h
                  refine r_iload_n (pc := 80) dX6_day_80 rfl rfl ?_
                  refine r_aload_n (pc := 81) dX6_day_81 rfl rfl ?_
                  refine r_iconst (pc := 82) (v := 0) dX6_day_82 (by decide) ?_
                  refine r_iald (pc := 83) dX6_day_83 h1 h (fun x93 h => ?_)
                  refine r_icmp_ge (pc := 84) (tgt := 98) dX6_day_84 (by decide) h (fun h => ?_) (fun h => ?_)
                  · refine r_aload_n (pc := 98) dX6_day_98 rfl rfl ?_
                    refine r_iconst (pc := 99) (v := 1) dX6_day_99 (by decide) ?_
                    refine r_dup2 (pc := 100) dX6_day_100 rfl rfl ?_
                    refine r_iald (pc := 101) dX6_day_101 h1 h (fun x94 h => ?_)
                    refine r_iconst (pc := 102) (v := 1) dX6_day_102 (by decide) ?_
                    refine r_iadd (pc := 103) dX6_day_103 ?_
                    refine r_iast (pc := 104) dX6_day_104 h1 h (fun m95 h => ?_)
                    exact r_vretH dX6_day_105 h he
                  · refine r_aload_n (pc := 87) dX6_day_87 rfl rfl ?_
                    refine r_iload_n (pc := 88) dX6_day_88 rfl rfl ?_
                    obtain ⟨m96, q98, h⟩ := gCv_some h
                    refine r_callS (pc := 89) [.ref _, .int _] (tX6_payBack _ _ _ hF _ _ _ _ _ q98 h1) ⟨rfl, rfl⟩ cd_X6_payBack wX6_88 nm_X6_payBack rfl (by rw [hRm]; decide) rfl (Nat.le_of_ble_eq_true rfl) dX6_day_89 ?_
                    refine r_iinc (pc := 92) (d := 1) dX6_day_92 rfl (by decide) (by rw [hnL]; decide) h (fun x99 h => ?_)
                    refine r_goto (pc := 95) (tgt := 80) dX6_day_95 (by decide) ?_
                    exact r_mask [true, false, false, true] rfl (ih89 _ _ h)
              exact r_mask [true, false, false, true] rfl (L90 _ _ _ h)
            · refine r_aload_n (pc := 53) dX6_day_53 rfl rfl ?_
              refine r_aload_n (pc := 54) dX6_day_54 rfl rfl ?_
              refine r_iload_n (pc := 55) dX6_day_55 rfl rfl ?_
              obtain ⟨m100, x101, q102, h⟩ := gCl_some h
              refine r_callS (pc := 56) [.ref _, .int _] (tX6_inRound _ _ _ hF _ _ _ _ _ q102 h1) ⟨rfl, rfl⟩ cd_X6_inRound wX6_78 nm_X6_inRound rfl (by rw [hRm]; decide) rfl (Nat.le_of_ble_eq_true rfl) dX6_day_56 ?_
              refine r_iload_n (pc := 59) dX6_day_59 rfl rfl ?_
              refine r_iload_n (pc := 60) dX6_day_60 rfl rfl ?_
              obtain ⟨m103, x104, q105, h⟩ := gCl_some h
              refine r_callS (pc := 61) [.ref _, .int _, .int _, .int _] (tX6_giveGood _ _ _ hF _ _ _ _ _ _ _ q105 h1) ⟨rfl, rfl⟩ cd_X6_giveGood wX6_85 nm_X6_giveGood rfl (by rw [hRm]; decide) rfl (Nat.le_of_ble_eq_true rfl) dX6_day_61 ?_
              refine r_istore_n (pc := 64) dX6_day_64 rfl (by rw [hnL]; decide) rfl ?_
              refine r_iinc (pc := 65) (d := 1) dX6_day_65 rfl (by decide) (by rw [hnL]; decide) h (fun x106 h => ?_)
              refine r_goto (pc := 68) (tgt := 46) dX6_day_68 (by decide) ?_
              exact r_mask [true, true, true, true] rfl (ih80 _ _ _ h)
        exact r_mask [true, true, true, true] rfl (L81 _ _ _ _ h)
      · refine r_aload_n (pc := 26) dX6_day_26 rfl rfl ?_
        refine r_aload_n (pc := 27) dX6_day_27 rfl rfl ?_
        refine r_iload_n (pc := 28) dX6_day_28 rfl rfl ?_
        obtain ⟨m107, x108, q109, h⟩ := gCl_some h
        refine r_callS (pc := 29) [.ref _, .int _] (tX6_inRound _ _ _ hF _ _ _ _ _ q109 h1) ⟨rfl, rfl⟩ cd_X6_inRound wX6_78 nm_X6_inRound rfl (by rw [hRm]; decide) rfl (Nat.le_of_ble_eq_true rfl) dX6_day_29 ?_
        refine r_iload_n (pc := 32) dX6_day_32 rfl rfl ?_
        refine r_iload_n (pc := 33) dX6_day_33 rfl rfl ?_
        obtain ⟨m110, x111, q112, h⟩ := gCl_some h
        refine r_callS (pc := 34) [.ref _, .int _, .int _, .int _] (tX6_giveDue _ _ _ hF _ _ _ _ _ _ _ q112 h1) ⟨rfl, rfl⟩ cd_X6_giveDue wX6_81 nm_X6_giveDue rfl (by rw [hRm]; decide) rfl (Nat.le_of_ble_eq_true rfl) dX6_day_34 ?_
        refine r_istore_n (pc := 37) dX6_day_37 rfl (by rw [hnL]; decide) rfl ?_
        refine r_iinc (pc := 38) (d := 1) dX6_day_38 rfl (by decide) (by rw [hnL]; decide) h (fun x113 h => ?_)
        refine r_goto (pc := 41) (tgt := 19) dX6_day_41 (by decide) ?_
        exact r_mask [true, true, true, true] rfl (ih73 _ _ _ h)
  exact r_mask [true, true, true, true] rfl (L74 _ _ _ _ h)
set_option maxHeartbeats 4000000 in
set_option maxRecDepth 100000 in
theorem tX6_daysOn (l : Launch) (G : gX) (u : gU) (hF : gFull u) (a1 a1n : Nat) (p2 : Int32) (m : gM) (o : gM × Int32) (h : fX6_daysOn a1 a1n p2 m = some o) (h1 : gIn u a1 7 a1n) : gMet l G u yX6_daysOn (.code yX6_daysOn cX6_daysOn 4 (some .int)) rmX6_daysOn [.ref a1, .int p2] m o.1 (some (.int o.2)) := by
  refine gMet_of (own := RX6) (k := 2) (by decide) rfl ⟨rfl, rfl⟩ (Nat.le_of_ble_eq_true rfl) [some (.ref a1), some (.int p2), none, none] rfl (fun Y hG hu hnL hLn hRm he => ?_)
  subst hG hu hLn
  unfold fX6_daysOn at h
  refine r_aload_n (pc := 0) dX6_daysOn_0 rfl rfl ?_
  refine r_iconst (pc := 1) (v := 3) dX6_daysOn_1 (by decide) ?_
  refine r_iald (pc := 2) dX6_daysOn_2 h1 h (fun x1 h => ?_)
  refine r_aload_n (pc := 3) dX6_daysOn_3 rfl rfl ?_
  refine r_iconst (pc := 4) (v := 4) dX6_daysOn_4 (by decide) ?_
  refine r_iald (pc := 5) dX6_daysOn_5 h1 h (fun x2 h => ?_)
  refine r_iadd (pc := 6) dX6_daysOn_6 ?_
  refine r_istore_nL (pc := 7) dX6_daysOn_7 rfl (by rw [hnL]; decide) h (fun x3 h => ?_)
  refine r_iconst (pc := 8) (v := 0) dX6_daysOn_8 (by decide) ?_
  refine r_istore_n (pc := 9) dX6_daysOn_9 rfl (by rw [hnL]; decide) rfl ?_
  have L12 : ∀ (n10 : Nat) (v13 : Int32) (m14 : gM), fX6_daysOn_L10 a1 a1n p2 x3 n10 v13 m14 = some o → AW Y cX6_daysOn RX6 10 [some (.ref a1), some (.int p2), some (.int x3), some (.int v13)] [] m14 := by
    intro n10
    induction n10 with
    | zero =>
      intro v13 m14 h
      exact absurd h (by simp [fX6_daysOn_L10])
    | succ n10 ih11 =>
      intro v13 m14 h
      rw [fX6_daysOn_L10] at h
      refine r_iload_n (pc := 10) dX6_daysOn_10 rfl rfl ?_
      refine r_iload_n (pc := 11) dX6_daysOn_11 rfl rfl ?_
      refine r_icmp_ge (pc := 12) (tgt := 25) dX6_daysOn_12 (by decide) h (fun h => ?_) (fun h => ?_)
      · refine r_aload_n (pc := 25) dX6_daysOn_25 rfl rfl ?_
        refine r_iconst (pc := 26) (v := 3) dX6_daysOn_26 (by decide) ?_
        refine r_iald (pc := 27) dX6_daysOn_27 h1 h (fun x15 h => ?_)
        refine r_aload_n (pc := 28) dX6_daysOn_28 rfl rfl ?_
        refine r_iconst (pc := 29) (v := 4) dX6_daysOn_29 (by decide) ?_
        refine r_iald (pc := 30) dX6_daysOn_30 h1 h (fun x16 h => ?_)
        refine r_iadd (pc := 31) dX6_daysOn_31 ?_
        refine r_iload_n (pc := 32) dX6_daysOn_32 rfl rfl ?_
        refine r_isub (pc := 33) dX6_daysOn_33 ?_
        exact r_iretH dX6_daysOn_34 h he
      · refine r_aload_n (pc := 15) dX6_daysOn_15 rfl rfl ?_
        obtain ⟨m17, q19, h⟩ := gCv_some h
        refine r_callS (pc := 16) [.ref _] (tX6_day _ _ _ hF _ _ _ _ q19 h1) ⟨rfl, rfl⟩ cd_X6_day wX6_92 nm_X6_day rfl (by rw [hRm]; decide) rfl (Nat.le_of_ble_eq_true rfl) dX6_daysOn_16 ?_
        refine r_iinc (pc := 19) (d := 1) dX6_daysOn_19 rfl (by decide) (by rw [hnL]; decide) h (fun x20 h => ?_)
        refine r_goto (pc := 22) (tgt := 10) dX6_daysOn_22 (by decide) ?_
        exact r_mask [true, true, true, true] rfl (ih11 _ _ h)
  exact r_mask [true, true, true, true] rfl (L12 _ _ _ h)
set_option maxHeartbeats 4000000 in
set_option maxRecDepth 100000 in
theorem tX6_reason (l : Launch) (G : gX) (u : gU) (hF : gFull u) (a1 a1n : Nat) (p2 : Int32) (m : gM) (o : gM × Int32) (h : fX6_reason a1 a1n p2 m = some o) (h1 : gIn u a1 7 a1n) : gMet l G u yX6_reason (.code yX6_reason cX6_reason 7 (some .int)) rmX6_reason [.ref a1, .int p2] m o.1 (some (.int o.2)) := by
  refine gMet_of (own := RX6) (k := 5) (by decide) rfl ⟨rfl, rfl⟩ (Nat.le_of_ble_eq_true rfl) [some (.ref a1), some (.int p2), none, none, none, none, none] rfl (fun Y hG hu hnL hLn hRm he => ?_)
  subst hG hu hLn
  unfold fX6_reason at h
  refine r_aload_n (pc := 0) dX6_reason_0 rfl rfl ?_
  refine r_iconst (pc := 1) (v := 1) dX6_reason_1 (by decide) ?_
  refine r_iald (pc := 2) dX6_reason_2 h1 h (fun x1 h => ?_)
  refine r_istore_n (pc := 3) dX6_reason_3 rfl (by rw [hnL]; decide) rfl ?_
  refine r_aload_n (pc := 4) dX6_reason_4 rfl rfl ?_
  refine r_iload_n (pc := 5) dX6_reason_5 rfl rfl ?_
  refine r_iconst (pc := 6) (v := 1) dX6_reason_6 (by decide) ?_
  refine r_iload_n (pc := 7) dX6_reason_7 rfl rfl ?_
  refine r_bipush (pc := 8) (v := 7) dX6_reason_8 (by decide) ?_
  refine r_iremc (pc := 10) dX6_reason_10 (by decide) ?_
  refine r_iadd (pc := 11) dX6_reason_11 ?_
  obtain ⟨m2, x3, q4, h⟩ := gCl_some h
  refine r_callS (pc := 12) [.ref _, .int _, .int _] (tX6_of _ _ _ hF _ _ _ _ _ _ q4 h1) ⟨rfl, rfl⟩ cd_X6_of wX6_53 nm_X6_of rfl (by rw [hRm]; decide) rfl (Nat.le_of_ble_eq_true rfl) dX6_reason_12 ?_
  refine r_if_ne (pc := 15) (tgt := 20) dX6_reason_15 (by decide) h (fun h => ?_) (fun h => ?_)
  · refine r_aload_n (pc := 20) dX6_reason_20 rfl rfl ?_
    refine r_iload_n (pc := 21) dX6_reason_21 rfl rfl ?_
    refine r_iload_n (pc := 22) dX6_reason_22 rfl rfl ?_
    obtain ⟨m5, x6, q7, h⟩ := gCl_some h
    refine r_callS (pc := 23) [.ref _, .int _, .int _] (tX6_isAway _ _ _ hF _ _ _ _ _ _ q7 h1) ⟨rfl, rfl⟩ cd_X6_isAway wX6_57 nm_X6_isAway rfl (by rw [hRm]; decide) rfl (Nat.le_of_ble_eq_true rfl) dX6_reason_23 ?_
    refine r_if_eq (pc := 26) (tgt := 31) dX6_reason_26 (by decide) h (fun h => ?_) (fun h => ?_)
    · refine r_aload_n (pc := 31) dX6_reason_31 rfl rfl ?_
      refine r_iload_n (pc := 32) dX6_reason_32 rfl rfl ?_
      refine r_iload_n (pc := 33) dX6_reason_33 rfl rfl ?_
      obtain ⟨m8, x9, q10, h⟩ := gCl_some h
      refine r_callS (pc := 34) [.ref _, .int _, .int _] (tX6_isOpen _ _ _ hF _ _ _ _ _ _ q10 h1) ⟨rfl, rfl⟩ cd_X6_isOpen wX6_68 nm_X6_isOpen rfl (by rw [hRm]; decide) rfl (Nat.le_of_ble_eq_true rfl) dX6_reason_34 ?_
      refine r_if_ne (pc := 37) (tgt := 42) dX6_reason_37 (by decide) h (fun h => ?_) (fun h => ?_)
      · refine r_aload_n (pc := 42) dX6_reason_42 rfl rfl ?_
        refine r_iload_n (pc := 43) dX6_reason_43 rfl rfl ?_
        obtain ⟨m11, x12, q13, h⟩ := gCl_some h
        refine r_callS (pc := 44) [.ref _, .int _] (tX6_baked _ _ _ hF _ _ _ _ _ q13 h1) ⟨rfl, rfl⟩ cd_X6_baked wX6_75 nm_X6_baked rfl (by rw [hRm]; decide) rfl (Nat.le_of_ble_eq_true rfl) dX6_reason_44 ?_
        refine r_istore_n (pc := 47) dX6_reason_47 rfl (by rw [hnL]; decide) rfl ?_
        refine r_iconst (pc := 48) (v := 0) dX6_reason_48 (by decide) ?_
        refine r_istore (pc := 49) dX6_reason_49 (by rw [hnL]; decide) rfl ?_
        have L40 : ∀ (n38 : Nat) (v41 : Int32) (v42 : Int32) (m43 : gM), fX6_reason_L51 a1 a1n p2 x1 n38 v41 v42 m43 = some o → AW Y cX6_reason RX6 51 [some (.ref a1), some (.int p2), some (.int x1), some (.int v41), some (.int v42), none, none] [] m43 := by
          intro n38
          induction n38 with
          | zero =>
            intro v41 v42 m43 h
            exact absurd h (by simp [fX6_reason_L51])
          | succ n38 ih39 =>
            intro v41 v42 m43 h
            rw [fX6_reason_L51] at h
            refine r_aload_n (pc := 51) dX6_reason_51 rfl rfl ?_
            refine r_iload (pc := 52) dX6_reason_52 rfl ?_
            obtain ⟨m44, x45, q46, h⟩ := gCl_some h
            refine r_callS (pc := 54) [.ref _, .int _] (tX6_inRound _ _ _ hF _ _ _ _ _ q46 h1) ⟨rfl, rfl⟩ cd_X6_inRound wX6_78 nm_X6_inRound rfl (by rw [hRm]; decide) rfl (Nat.le_of_ble_eq_true rfl) dX6_reason_54 ?_
            refine r_iload_n (pc := 57) dX6_reason_57 rfl rfl ?_
            refine r_icmp_eq (pc := 58) (tgt := 113) dX6_reason_58 (by decide) h (fun h => ?_) (fun h => ?_)
            · refine r_iload_n (pc := 113) dX6_reason_113 rfl rfl ?_
              refine r_if_ne (pc := 114) (tgt := 121) dX6_reason_114 (by decide) h (fun h => ?_) (fun h => ?_)
              · refine r_iload_n (pc := 121) dX6_reason_121 rfl rfl ?_
                refine r_aload_n (pc := 122) dX6_reason_122 rfl rfl ?_
                refine r_iload_n (pc := 123) dX6_reason_123 rfl rfl ?_
                refine r_iload_n (pc := 124) dX6_reason_124 rfl rfl ?_
                obtain ⟨m47, x48, q49, h⟩ := gCl_some h
                refine r_callS (pc := 125) [.ref _, .int _, .int _] (tX6_dueOn _ _ _ hF _ _ _ _ _ _ q49 h1) ⟨rfl, rfl⟩ cd_X6_dueOn wX6_61 nm_X6_dueOn rfl (by rw [hRm]; decide) rfl (Nat.le_of_ble_eq_true rfl) dX6_reason_125 ?_
                refine r_icmp_ge (pc := 128) (tgt := 135) dX6_reason_128 (by decide) h (fun h => ?_) (fun h => ?_)
                · refine r_iconst (pc := 135) (v := 0) dX6_reason_135 (by decide) ?_
                  exact r_iretH dX6_reason_136 h he
                · refine r_iconst (pc := 131) (v := 5) dX6_reason_131 (by decide) ?_
                  refine r_goto (pc := 132) (tgt := 136) dX6_reason_132 (by decide) ?_
                  exact r_iretH dX6_reason_136 h he
              · refine r_iconst (pc := 117) (v := 4) dX6_reason_117 (by decide) ?_
                refine r_goto (pc := 118) (tgt := 136) dX6_reason_118 (by decide) ?_
                exact r_iretH dX6_reason_136 h he
            · refine r_aload_n (pc := 61) dX6_reason_61 rfl rfl ?_
              refine r_iload (pc := 62) dX6_reason_62 rfl ?_
              obtain ⟨m50, x51, q52, h⟩ := gCl_some h
              refine r_callS (pc := 64) [.ref _, .int _] (tX6_inRound _ _ _ hF _ _ _ _ _ q52 h1) ⟨rfl, rfl⟩ cd_X6_inRound wX6_78 nm_X6_inRound rfl (by rw [hRm]; decide) rfl (Nat.le_of_ble_eq_true rfl) dX6_reason_64 ?_
              refine r_istore (pc := 67) dX6_reason_67 (by rw [hnL]; decide) rfl ?_
              refine r_aload_n (pc := 69) dX6_reason_69 rfl rfl ?_
              refine r_iload (pc := 70) dX6_reason_70 rfl ?_
              refine r_iload_n (pc := 72) dX6_reason_72 rfl rfl ?_
              obtain ⟨m53, x54, q55, h⟩ := gCl_some h
              refine r_callS (pc := 73) [.ref _, .int _, .int _] (tX6_isOpen _ _ _ hF _ _ _ _ _ _ q55 h1) ⟨rfl, rfl⟩ cd_X6_isOpen wX6_68 nm_X6_isOpen rfl (by rw [hRm]; decide) rfl (Nat.le_of_ble_eq_true rfl) dX6_reason_73 ?_
              refine r_jnK h (fun (k58 : Int32 → gM → Option (gM × Int32)) => ∀ (x56 : Int32) (m57 : gM), k58 x56 m57 = some o → AW Y cX6_reason RX6 90 [some (.ref a1), some (.int p2), some (.int x1), some (.int v41), some (.int v42), none, none] [.int x56] m57) (fun x56 m57 h => ?_) (fun k58 hJ59 h => ?_)
              · refine r_istore (pc := 90) dX6_reason_90 (by rw [hnL]; decide) rfl ?_
                refine r_iload_n (pc := 92) dX6_reason_92 rfl rfl ?_
                refine r_iload (pc := 93) dX6_reason_93 rfl ?_
                refine r_iload_n (pc := 95) dX6_reason_95 rfl rfl ?_
                refine r_jn1 h (fun x60 => AW Y cX6_reason RX6 105 [some (.ref a1), some (.int p2), some (.int x1), none, some (.int v42), none, none] [.int x60, .int v41] m57) (fun x60 h => ?_) (fun hJ61 => ?_)
                · refine r_isub (pc := 105) dX6_reason_105 ?_
                  refine r_istore_nL (pc := 106) dX6_reason_106 rfl (by rw [hnL]; decide) h (fun x63 h => ?_)
                  refine r_iinc (pc := 107) (d := 1) dX6_reason_107 rfl (by decide) (by rw [hnL]; decide) h (fun x64 h => ?_)
                  refine r_goto (pc := 110) (tgt := 51) dX6_reason_110 (by decide) ?_
                  exact r_mask [true, true, true, true, true, false, false] rfl (ih39 _ _ _ h)
                · refine r_icmpC_ge (pc := 96) (tgt := 104) dX6_reason_96 (by decide) (fun g62 => ?_) (fun g62 => ?_)
                  · refine r_iload_n (pc := 104) dX6_reason_104 rfl rfl ?_
                    exact r_mask [true, true, true, false, true, false, false] rfl (hJ61 _ (by rw [if_pos g62]))
                  · refine r_iload (pc := 99) dX6_reason_99 rfl ?_
                    refine r_goto (pc := 101) (tgt := 105) dX6_reason_101 (by decide) ?_
                    exact r_mask [true, true, true, false, true, false, false] rfl (hJ61 _ (by rw [if_neg g62]))
              · refine r_if_eq (pc := 76) (tgt := 89) dX6_reason_76 (by decide) h (fun h => ?_) (fun h => ?_)
                · refine r_iconst (pc := 89) (v := 0) dX6_reason_89 (by decide) ?_
                  exact r_mask [true, true, true, true, true, false, false] rfl (hJ59 _ _ h)
                · refine r_aload_n (pc := 79) dX6_reason_79 rfl rfl ?_
                  refine r_iload (pc := 80) dX6_reason_80 rfl ?_
                  refine r_iload_n (pc := 82) dX6_reason_82 rfl rfl ?_
                  obtain ⟨m65, x66, q67, h⟩ := gCl_some h
                  refine r_callS (pc := 83) [.ref _, .int _, .int _] (tX6_dueOn _ _ _ hF _ _ _ _ _ _ q67 h1) ⟨rfl, rfl⟩ cd_X6_dueOn wX6_61 nm_X6_dueOn rfl (by rw [hRm]; decide) rfl (Nat.le_of_ble_eq_true rfl) dX6_reason_83 ?_
                  refine r_goto (pc := 86) (tgt := 90) dX6_reason_86 (by decide) ?_
                  exact r_mask [true, true, true, true, true, false, false] rfl (hJ59 _ _ h)
        exact r_mask [true, true, true, true, true, false, false] rfl (L40 _ _ _ _ h)
      · refine r_iconst (pc := 40) (v := 3) dX6_reason_40 (by decide) ?_
        exact r_iretH dX6_reason_41 h he
    · refine r_iconst (pc := 29) (v := 2) dX6_reason_29 (by decide) ?_
      exact r_iretH dX6_reason_30 h he
  · refine r_iconst (pc := 18) (v := 1) dX6_reason_18 (by decide) ?_
    exact r_iretH dX6_reason_19 h he
set_option maxHeartbeats 4000000 in
set_option maxRecDepth 100000 in
theorem tX6_customerOn (l : Launch) (G : gX) (u : gU) (hF : gFull u) (a1 a1n : Nat) (p2 : Int32) (p3 : Int32) (m : gM) (o : gM × Int32) (h : fX6_customerOn a1 a1n p2 p3 m = some o) (h1 : gIn u a1 7 a1n) : gMet l G u yX6_customerOn (.code yX6_customerOn cX6_customerOn 6 (some .int)) rmX6_customerOn [.ref a1, .int p2, .int p3] m o.1 (some (.int o.2)) := by
  refine gMet_of (own := RX6) (k := 3) (by decide) rfl ⟨rfl, rfl⟩ (Nat.le_of_ble_eq_true rfl) [some (.ref a1), some (.int p2), some (.int p3), none, none, none] rfl (fun Y hG hu hnL hLn hRm he => ?_)
  subst hG hu hLn
  unfold fX6_customerOn at h
  refine r_aload_n (pc := 0) dX6_customerOn_0 rfl rfl ?_
  refine r_iconst (pc := 1) (v := 0) dX6_customerOn_1 (by decide) ?_
  refine r_iald (pc := 2) dX6_customerOn_2 h1 h (fun x1 h => ?_)
  refine r_istore_n (pc := 3) dX6_customerOn_3 rfl (by rw [hnL]; decide) rfl ?_
  refine r_iconst (pc := 4) (v := 0) dX6_customerOn_4 (by decide) ?_
  refine r_istore (pc := 5) dX6_customerOn_5 (by rw [hnL]; decide) rfl ?_
  have L29 : ∀ (n27 : Nat) (v30 : Int32) (m31 : gM), fX6_customerOn_L7 a1 a1n p2 p3 x1 n27 v30 m31 = some o → AW Y cX6_customerOn RX6 7 [some (.ref a1), some (.int p2), some (.int p3), some (.int x1), some (.int v30), none] [] m31 := by
    intro n27
    induction n27 with
    | zero =>
      intro v30 m31 h
      exact absurd h (by simp [fX6_customerOn_L7])
    | succ n27 ih28 =>
      intro v30 m31 h
      rw [fX6_customerOn_L7] at h
      refine r_iload (pc := 7) dX6_customerOn_7 rfl ?_
      refine r_bipush (pc := 9) (v := 21) dX6_customerOn_9 (by decide) ?_
      refine r_icmp_ge (pc := 11) (tgt := 33) dX6_customerOn_11 (by decide) h (fun h => ?_) (fun h => ?_)
      · refine r_aload_n (pc := 33) dX6_customerOn_33 rfl rfl ?_
        refine r_iload_n (pc := 34) dX6_customerOn_34 rfl rfl ?_
        refine r_iconst (pc := 35) (v := 0) dX6_customerOn_35 (by decide) ?_
        refine r_iload_n (pc := 36) dX6_customerOn_36 rfl rfl ?_
        obtain ⟨m32, q34, h⟩ := gCv_some h
        refine r_callS (pc := 37) [.ref _, .int _, .int _, .int _] (tX6_add _ _ _ hF _ _ _ _ _ _ _ q34 h1) ⟨rfl, rfl⟩ cd_X6_add wX6_71 nm_X6_add rfl (by rw [hRm]; decide) rfl (Nat.le_of_ble_eq_true rfl) dX6_customerOn_37 ?_
        refine r_iload_n (pc := 40) dX6_customerOn_40 rfl rfl ?_
        refine r_istore (pc := 41) dX6_customerOn_41 (by rw [hnL]; decide) rfl ?_
        refine r_bipush (pc := 43) (v := 6) dX6_customerOn_43 (by decide) ?_
        refine r_istore (pc := 45) dX6_customerOn_45 (by rw [hnL]; decide) rfl ?_
        have L37 : ∀ (n35 : Nat) (v38 : Int32) (v39 : Int32) (m40 : gM), fX6_customerOn_L47 a1 a1n x1 (fX6_customerOn_L7 a1 a1n p2 p3 x1 n27) n35 v38 v39 m40 = some o → AW Y cX6_customerOn RX6 47 [some (.ref a1), none, none, some (.int x1), some (.int v38), some (.int v39)] [] m40 := by
          intro n35
          induction n35 with
          | zero =>
            intro v38 v39 m40 h
            exact absurd h (by simp [fX6_customerOn_L47])
          | succ n35 ih36 =>
            intro v38 v39 m40 h
            rw [fX6_customerOn_L47] at h
            refine r_iload (pc := 47) dX6_customerOn_47 rfl ?_
            refine r_if_lt (pc := 49) (tgt := 79) dX6_customerOn_49 (by decide) h (fun h => ?_) (fun h => ?_)
            · refine r_aload_n (pc := 79) dX6_customerOn_79 rfl rfl ?_
              refine r_iconst (pc := 80) (v := 0) dX6_customerOn_80 (by decide) ?_
              refine r_dup2 (pc := 81) dX6_customerOn_81 rfl rfl ?_
              refine r_iald (pc := 82) dX6_customerOn_82 h1 h (fun x41 h => ?_)
              refine r_iconst (pc := 83) (v := 1) dX6_customerOn_83 (by decide) ?_
              refine r_iadd (pc := 84) dX6_customerOn_84 ?_
              refine r_iast (pc := 85) dX6_customerOn_85 h1 h (fun m42 h => ?_)
              refine r_iload_n (pc := 86) dX6_customerOn_86 rfl rfl ?_
              exact r_iretH dX6_customerOn_87 h he
            · refine r_aload_n (pc := 52) dX6_customerOn_52 rfl rfl ?_
              refine r_iload_n (pc := 53) dX6_customerOn_53 rfl rfl ?_
              refine r_iconst (pc := 54) (v := 1) dX6_customerOn_54 (by decide) ?_
              refine r_iload (pc := 55) dX6_customerOn_55 rfl ?_
              refine r_iadd (pc := 57) dX6_customerOn_57 ?_
              refine r_iload (pc := 58) dX6_customerOn_58 rfl ?_
              refine r_bipush (pc := 60) (v := 10) dX6_customerOn_60 (by decide) ?_
              refine r_iremc (pc := 62) dX6_customerOn_62 (by decide) ?_
              obtain ⟨m43, q45, h⟩ := gCv_some h
              refine r_callS (pc := 63) [.ref _, .int _, .int _, .int _] (tX6_add _ _ _ hF _ _ _ _ _ _ _ q45 h1) ⟨rfl, rfl⟩ cd_X6_add wX6_71 nm_X6_add rfl (by rw [hRm]; decide) rfl (Nat.le_of_ble_eq_true rfl) dX6_customerOn_63 ?_
              refine r_iload (pc := 66) dX6_customerOn_66 rfl ?_
              refine r_bipush (pc := 68) (v := 10) dX6_customerOn_68 (by decide) ?_
              refine r_idivc (pc := 70) dX6_customerOn_70 (by decide) ?_
              refine r_istoreL (pc := 71) dX6_customerOn_71 (by rw [hnL]; decide) h (fun x46 h => ?_)
              refine r_iinc (pc := 73) (d := (-1)) dX6_customerOn_73 rfl (by decide) (by rw [hnL]; decide) h (fun x47 h => ?_)
              refine r_goto (pc := 76) (tgt := 47) dX6_customerOn_76 (by decide) ?_
              exact r_mask [true, false, false, true, true, true] rfl (ih36 _ _ _ h)
        exact r_mask [true, false, false, true, true, true] rfl (L37 _ _ _ _ h)
      · refine r_aload_n (pc := 14) dX6_customerOn_14 rfl rfl ?_
        refine r_bipush (pc := 15) (v := 48) dX6_customerOn_15 (by decide) ?_
        refine r_bipush (pc := 17) (v := 21) dX6_customerOn_17 (by decide) ?_
        refine r_iload_n (pc := 19) dX6_customerOn_19 rfl rfl ?_
        refine r_imul (pc := 20) dX6_customerOn_20 ?_
        refine r_iadd (pc := 21) dX6_customerOn_21 ?_
        refine r_iload (pc := 22) dX6_customerOn_22 rfl ?_
        refine r_iadd (pc := 24) dX6_customerOn_24 ?_
        refine r_iconst (pc := 25) (v := 0) dX6_customerOn_25 (by decide) ?_
        refine r_iast (pc := 26) dX6_customerOn_26 h1 h (fun m48 h => ?_)
        refine r_iinc (pc := 27) (d := 1) dX6_customerOn_27 rfl (by decide) (by rw [hnL]; decide) h (fun x49 h => ?_)
        refine r_goto (pc := 30) (tgt := 7) dX6_customerOn_30 (by decide) ?_
        exact r_mask [true, true, true, true, true, false] rfl (ih28 _ _ h)
  exact r_mask [true, true, true, true, true, false] rfl (L29 _ _ _ h)
set_option maxHeartbeats 4000000 in
set_option maxRecDepth 100000 in
theorem tX6_put (l : Launch) (G : gX) (u : gU) (hF : gFull u) (a1 a1n : Nat) (p2 : Int32) (p3 : Int32) (m : gM) (o : gM × Int32) (h : fX6_put a1 a1n p2 p3 m = some o) (h1 : gIn u a1 7 a1n) : gMet l G u yX6_put (.code yX6_put cX6_put 4 (some .int)) rmX6_put [.ref a1, .int p2, .int p3] m o.1 (some (.int o.2)) := by
  refine gMet_of (own := RX6) (k := 1) (by decide) rfl ⟨rfl, rfl⟩ (Nat.le_of_ble_eq_true rfl) [some (.ref a1), some (.int p2), some (.int p3), none] rfl (fun Y hG hu hnL hLn hRm he => ?_)
  subst hG hu hLn
  unfold fX6_put at h
  refine r_aload_n (pc := 0) dX6_put_0 rfl rfl ?_
  refine r_iload_n (pc := 1) dX6_put_1 rfl rfl ?_
  refine r_iald (pc := 2) dX6_put_2 h1 h (fun x1 h => ?_)
  refine r_istore_n (pc := 3) dX6_put_3 rfl (by rw [hnL]; decide) rfl ?_
  refine r_aload_n (pc := 4) dX6_put_4 rfl rfl ?_
  refine r_iload_n (pc := 5) dX6_put_5 rfl rfl ?_
  refine r_iload_n (pc := 6) dX6_put_6 rfl rfl ?_
  refine r_iast (pc := 7) dX6_put_7 h1 h (fun m2 h => ?_)
  refine r_iload_n (pc := 8) dX6_put_8 rfl rfl ?_
  exact r_iretH dX6_put_9 h he
set_option maxHeartbeats 4000000 in
set_option maxRecDepth 100000 in
theorem tX6_changeOn (l : Launch) (G : gX) (u : gU) (hF : gFull u) (a1 a1n : Nat) (p2 : Int32) (p3 : Int32) (p4 : Int32) (m : gM) (o : gM × Int32) (h : fX6_changeOn a1 a1n p2 p3 p4 m = some o) (h1 : gIn u a1 7 a1n) : gMet l G u yX6_changeOn (.code yX6_changeOn cX6_changeOn 4 (some .int)) rmX6_changeOn [.ref a1, .int p2, .int p3, .int p4] m o.1 (some (.int o.2)) := by
  refine gMet_of (own := RX6) (k := 0) (by decide) rfl ⟨rfl, rfl⟩ (Nat.le_of_ble_eq_true rfl) [some (.ref a1), some (.int p2), some (.int p3), some (.int p4)] rfl (fun Y hG hu hnL hLn hRm he => ?_)
  subst hG hu hLn
  unfold fX6_changeOn at h
  refine r_aload_n (pc := 0) dX6_changeOn_0 rfl rfl ?_
  refine r_bipush (pc := 1) (v := 48) dX6_changeOn_1 (by decide) ?_
  refine r_bipush (pc := 3) (v := 21) dX6_changeOn_3 (by decide) ?_
  refine r_iload_n (pc := 5) dX6_changeOn_5 rfl rfl ?_
  refine r_imul (pc := 6) dX6_changeOn_6 ?_
  refine r_iadd (pc := 7) dX6_changeOn_7 ?_
  refine r_iconst (pc := 8) (v := 1) dX6_changeOn_8 (by decide) ?_
  refine r_iadd (pc := 9) dX6_changeOn_9 ?_
  refine r_iload_n (pc := 10) dX6_changeOn_10 rfl rfl ?_
  refine r_iadd (pc := 11) dX6_changeOn_11 ?_
  refine r_iload_n (pc := 12) dX6_changeOn_12 rfl rfl ?_
  obtain ⟨m1, x2, q3, h⟩ := gCl_some h
  refine r_callS (pc := 13) [.ref _, .int _, .int _] (tX6_put _ _ _ hF _ _ _ _ _ _ q3 h1) ⟨rfl, rfl⟩ cd_X6_put wX6_95 nm_X6_put rfl (by rw [hRm]; decide) rfl (Nat.le_of_ble_eq_true rfl) dX6_changeOn_13 ?_
  exact r_iretH dX6_changeOn_16 h he
set_option maxHeartbeats 4000000 in
set_option maxRecDepth 100000 in
theorem tX6_isSpan (l : Launch) (G : gX) (u : gU) (hF : gFull u) (p1 : Int32) (p2 : Int32) (m : gM) (o : gM × Int32) (h : fX6_isSpan p1 p2 m = some o)  : gMet l G u yX6_isSpan (.code yX6_isSpan cX6_isSpan 2 (some .boolean)) rmX6_isSpan [.int p1, .int p2] m o.1 (some (.int o.2)) := by
  refine gMet_of (own := RX6) (k := 0) (by decide) rfl ⟨rfl, rfl⟩ (Nat.le_of_ble_eq_true rfl) [some (.int p1), some (.int p2)] rfl (fun Y hG hu hnL hLn hRm he => ?_)
  subst hG hu hLn
  unfold fX6_isSpan at h
  refine r_iload_n (pc := 0) dX6_isSpan_0 rfl rfl ?_
  refine r_i2l (pc := 1) dX6_isSpan_1 ?_
  refine r_lconst (pc := 2) (v := 0) dX6_isSpan_2 (by decide) ?_
  refine r_ldc2 (pc := 3) (v := 999) dX6_isSpan_3 cX6_98 ?_
  obtain ⟨m1, x2, q3, h⟩ := gCl_some h
  refine r_callS (pc := 6) [.long _, .long _, .long _] (tX6_in _ _ _ hF _ _ _ _ _ q3) ⟨rfl, rfl⟩ cd_X6_in wX6_37 nm_X6_in rfl (by rw [hRm]; decide) rfl (Nat.le_of_ble_eq_true rfl) dX6_isSpan_6 ?_
  refine r_if_eq (pc := 9) (tgt := 29) dX6_isSpan_9 (by decide) h (fun h => ?_) (fun h => ?_)
  · refine r_iconst (pc := 29) (v := 0) dX6_isSpan_29 (by decide) ?_
    exact r_zretH dX6_isSpan_30 rfl h he
  · refine r_iload_n (pc := 12) dX6_isSpan_12 rfl rfl ?_
    refine r_i2l (pc := 13) dX6_isSpan_13 ?_
    refine r_iload_n (pc := 14) dX6_isSpan_14 rfl rfl ?_
    refine r_i2l (pc := 15) dX6_isSpan_15 ?_
    refine r_ldc2 (pc := 16) (v := 999) dX6_isSpan_16 cX6_98 ?_
    obtain ⟨m4, x5, q6, h⟩ := gCl_some h
    refine r_callS (pc := 19) [.long _, .long _, .long _] (tX6_in _ _ _ hF _ _ _ _ _ q6) ⟨rfl, rfl⟩ cd_X6_in wX6_37 nm_X6_in rfl (by rw [hRm]; decide) rfl (Nat.le_of_ble_eq_true rfl) dX6_isSpan_19 ?_
    refine r_if_eq (pc := 22) (tgt := 29) dX6_isSpan_22 (by decide) h (fun h => ?_) (fun h => ?_)
    · refine r_iconst (pc := 29) (v := 0) dX6_isSpan_29 (by decide) ?_
      exact r_zretH dX6_isSpan_30 rfl h he
    · refine r_iconst (pc := 25) (v := 1) dX6_isSpan_25 (by decide) ?_
      refine r_goto (pc := 26) (tgt := 30) dX6_isSpan_26 (by decide) ?_
      exact r_zretH dX6_isSpan_30 rfl h he
set_option maxHeartbeats 4000000 in
set_option maxRecDepth 100000 in
theorem tX6_holidayOn (l : Launch) (G : gX) (u : gU) (hF : gFull u) (a1 a1n : Nat) (p2 : Int32) (p3 : Int32) (p4 : Int32) (m : gM) (o : gM × Int32) (h : fX6_holidayOn a1 a1n p2 p3 p4 m = some o) (h1 : gIn u a1 7 a1n) : gMet l G u yX6_holidayOn (.code yX6_holidayOn cX6_holidayOn 5 (some .int)) rmX6_holidayOn [.ref a1, .int p2, .int p3, .int p4] m o.1 (some (.int o.2)) := by
  refine gMet_of (own := RX6) (k := 1) (by decide) rfl ⟨rfl, rfl⟩ (Nat.le_of_ble_eq_true rfl) [some (.ref a1), some (.int p2), some (.int p3), some (.int p4), none] rfl (fun Y hG hu hnL hLn hRm he => ?_)
  subst hG hu hLn
  unfold fX6_holidayOn at h
  refine r_bipush (pc := 0) (v := 48) dX6_holidayOn_0 (by decide) ?_
  refine r_bipush (pc := 2) (v := 21) dX6_holidayOn_2 (by decide) ?_
  refine r_iload_n (pc := 4) dX6_holidayOn_4 rfl rfl ?_
  refine r_imul (pc := 5) dX6_holidayOn_5 ?_
  refine r_iadd (pc := 6) dX6_holidayOn_6 ?_
  refine r_bipush (pc := 7) (v := 15) dX6_holidayOn_7 (by decide) ?_
  refine r_iadd (pc := 9) dX6_holidayOn_9 ?_
  refine r_iconst (pc := 10) (v := 2) dX6_holidayOn_10 (by decide) ?_
  refine r_aload_n (pc := 11) dX6_holidayOn_11 rfl rfl ?_
  refine r_iload_n (pc := 12) dX6_holidayOn_12 rfl rfl ?_
  refine r_bipush (pc := 13) (v := 14) dX6_holidayOn_13 (by decide) ?_
  obtain ⟨m1, x2, q3, h⟩ := gCl_some h
  refine r_callS (pc := 15) [.ref _, .int _, .int _] (tX6_of _ _ _ hF _ _ _ _ _ _ q3 h1) ⟨rfl, rfl⟩ cd_X6_of wX6_53 nm_X6_of rfl (by rw [hRm]; decide) rfl (Nat.le_of_ble_eq_true rfl) dX6_holidayOn_15 ?_
  refine r_imul (pc := 18) dX6_holidayOn_18 ?_
  refine r_iadd (pc := 19) dX6_holidayOn_19 ?_
  refine r_istoreL (pc := 20) dX6_holidayOn_20 (by rw [hnL]; decide) h (fun x4 h => ?_)
  refine r_aload_n (pc := 22) dX6_holidayOn_22 rfl rfl ?_
  refine r_iload (pc := 23) dX6_holidayOn_23 rfl ?_
  refine r_iload_n (pc := 25) dX6_holidayOn_25 rfl rfl ?_
  refine r_iast (pc := 26) dX6_holidayOn_26 h1 h (fun m5 h => ?_)
  refine r_aload_n (pc := 27) dX6_holidayOn_27 rfl rfl ?_
  refine r_iload (pc := 28) dX6_holidayOn_28 rfl ?_
  refine r_iconst (pc := 30) (v := 1) dX6_holidayOn_30 (by decide) ?_
  refine r_iadd (pc := 31) dX6_holidayOn_31 ?_
  refine r_iload_n (pc := 32) dX6_holidayOn_32 rfl rfl ?_
  refine r_iast (pc := 33) dX6_holidayOn_33 h1 h (fun m6 h => ?_)
  refine r_aload_n (pc := 34) dX6_holidayOn_34 rfl rfl ?_
  refine r_iload_n (pc := 35) dX6_holidayOn_35 rfl rfl ?_
  refine r_bipush (pc := 36) (v := 14) dX6_holidayOn_36 (by decide) ?_
  refine r_iconst (pc := 38) (v := 1) dX6_holidayOn_38 (by decide) ?_
  obtain ⟨m7, q9, h⟩ := gCv_some h
  refine r_callS (pc := 39) [.ref _, .int _, .int _, .int _] (tX6_add _ _ _ hF _ _ _ _ _ _ _ q9 h1) ⟨rfl, rfl⟩ cd_X6_add wX6_71 nm_X6_add rfl (by rw [hRm]; decide) rfl (Nat.le_of_ble_eq_true rfl) dX6_holidayOn_39 ?_
  refine r_aload_n (pc := 42) dX6_holidayOn_42 rfl rfl ?_
  refine r_iload_n (pc := 43) dX6_holidayOn_43 rfl rfl ?_
  refine r_bipush (pc := 44) (v := 14) dX6_holidayOn_44 (by decide) ?_
  obtain ⟨m10, x11, q12, h⟩ := gCl_some h
  refine r_callS (pc := 46) [.ref _, .int _, .int _] (tX6_of _ _ _ hF _ _ _ _ _ _ q12 h1) ⟨rfl, rfl⟩ cd_X6_of wX6_53 nm_X6_of rfl (by rw [hRm]; decide) rfl (Nat.le_of_ble_eq_true rfl) dX6_holidayOn_46 ?_
  exact r_iretH dX6_holidayOn_49 h he
set_option maxHeartbeats 4000000 in
set_option maxRecDepth 100000 in
theorem tX6_dropOn (l : Launch) (G : gX) (u : gU) (hF : gFull u) (a1 a1n : Nat) (p2 : Int32) (p3 : Int32) (m : gM) (o : gM × Int32) (h : fX6_dropOn a1 a1n p2 p3 m = some o) (h1 : gIn u a1 7 a1n) : gMet l G u yX6_dropOn (.code yX6_dropOn cX6_dropOn 5 (some .int)) rmX6_dropOn [.ref a1, .int p2, .int p3] m o.1 (some (.int o.2)) := by
  refine gMet_of (own := RX6) (k := 2) (by decide) rfl ⟨rfl, rfl⟩ (Nat.le_of_ble_eq_true rfl) [some (.ref a1), some (.int p2), some (.int p3), none, none] rfl (fun Y hG hu hnL hLn hRm he => ?_)
  subst hG hu hLn
  unfold fX6_dropOn at h
  refine r_aload_n (pc := 0) dX6_dropOn_0 rfl rfl ?_
  refine r_iload_n (pc := 1) dX6_dropOn_1 rfl rfl ?_
  refine r_bipush (pc := 2) (v := 14) dX6_dropOn_2 (by decide) ?_
  refine r_iconst (pc := 4) (v := (-1)) dX6_dropOn_4 (by decide) ?_
  obtain ⟨m1, q3, h⟩ := gCv_some h
  refine r_callS (pc := 5) [.ref _, .int _, .int _, .int _] (tX6_add _ _ _ hF _ _ _ _ _ _ _ q3 h1) ⟨rfl, rfl⟩ cd_X6_add wX6_71 nm_X6_add rfl (by rw [hRm]; decide) rfl (Nat.le_of_ble_eq_true rfl) dX6_dropOn_5 ?_
  refine r_bipush (pc := 8) (v := 48) dX6_dropOn_8 (by decide) ?_
  refine r_bipush (pc := 10) (v := 21) dX6_dropOn_10 (by decide) ?_
  refine r_iload_n (pc := 12) dX6_dropOn_12 rfl rfl ?_
  refine r_imul (pc := 13) dX6_dropOn_13 ?_
  refine r_iadd (pc := 14) dX6_dropOn_14 ?_
  refine r_bipush (pc := 15) (v := 15) dX6_dropOn_15 (by decide) ?_
  refine r_iadd (pc := 17) dX6_dropOn_17 ?_
  refine r_istore_nL (pc := 18) dX6_dropOn_18 rfl (by rw [hnL]; decide) h (fun x4 h => ?_)
  refine r_iconst (pc := 19) (v := 2) dX6_dropOn_19 (by decide) ?_
  refine r_iload_n (pc := 20) dX6_dropOn_20 rfl rfl ?_
  refine r_imul (pc := 21) dX6_dropOn_21 ?_
  refine r_istoreL (pc := 22) dX6_dropOn_22 (by rw [hnL]; decide) h (fun x5 h => ?_)
  have L17 : ∀ (n15 : Nat) (v18 : Int32) (m19 : gM), fX6_dropOn_L24 a1 a1n p2 x4 n15 v18 m19 = some o → AW Y cX6_dropOn RX6 24 [some (.ref a1), some (.int p2), none, some (.int x4), some (.int v18)] [] m19 := by
    intro n15
    induction n15 with
    | zero =>
      intro v18 m19 h
      exact absurd h (by simp [fX6_dropOn_L24])
    | succ n15 ih16 =>
      intro v18 m19 h
      rw [fX6_dropOn_L24] at h
      refine r_iload (pc := 24) dX6_dropOn_24 rfl ?_
      refine r_iconst (pc := 26) (v := 2) dX6_dropOn_26 (by decide) ?_
      refine r_aload_n (pc := 27) dX6_dropOn_27 rfl rfl ?_
      refine r_iload_n (pc := 28) dX6_dropOn_28 rfl rfl ?_
      refine r_bipush (pc := 29) (v := 14) dX6_dropOn_29 (by decide) ?_
      obtain ⟨m20, x21, q22, h⟩ := gCl_some h
      refine r_callS (pc := 31) [.ref _, .int _, .int _] (tX6_of _ _ _ hF _ _ _ _ _ _ q22 h1) ⟨rfl, rfl⟩ cd_X6_of wX6_53 nm_X6_of rfl (by rw [hRm]; decide) rfl (Nat.le_of_ble_eq_true rfl) dX6_dropOn_31 ?_
      refine r_imul (pc := 34) dX6_dropOn_34 ?_
      refine r_icmp_ge (pc := 35) (tgt := 58) dX6_dropOn_35 (by decide) h (fun h => ?_) (fun h => ?_)
      · refine r_aload_n (pc := 58) dX6_dropOn_58 rfl rfl ?_
        refine r_iload_n (pc := 59) dX6_dropOn_59 rfl rfl ?_
        refine r_bipush (pc := 60) (v := 14) dX6_dropOn_60 (by decide) ?_
        obtain ⟨m23, x24, q25, h⟩ := gCl_some h
        refine r_callS (pc := 62) [.ref _, .int _, .int _] (tX6_of _ _ _ hF _ _ _ _ _ _ q25 h1) ⟨rfl, rfl⟩ cd_X6_of wX6_53 nm_X6_of rfl (by rw [hRm]; decide) rfl (Nat.le_of_ble_eq_true rfl) dX6_dropOn_62 ?_
        exact r_iretH dX6_dropOn_65 h he
      · refine r_aload_n (pc := 38) dX6_dropOn_38 rfl rfl ?_
        refine r_iload_n (pc := 39) dX6_dropOn_39 rfl rfl ?_
        refine r_iload (pc := 40) dX6_dropOn_40 rfl ?_
        refine r_iadd (pc := 42) dX6_dropOn_42 ?_
        refine r_aload_n (pc := 43) dX6_dropOn_43 rfl rfl ?_
        refine r_iload_n (pc := 44) dX6_dropOn_44 rfl rfl ?_
        refine r_iload (pc := 45) dX6_dropOn_45 rfl ?_
        refine r_iadd (pc := 47) dX6_dropOn_47 ?_
        refine r_iconst (pc := 48) (v := 2) dX6_dropOn_48 (by decide) ?_
        refine r_iadd (pc := 49) dX6_dropOn_49 ?_
        refine r_iald (pc := 50) dX6_dropOn_50 h1 h (fun x26 h => ?_)
        refine r_iast (pc := 51) dX6_dropOn_51 h1 h (fun m27 h => ?_)
        refine r_iinc (pc := 52) (d := 1) dX6_dropOn_52 rfl (by decide) (by rw [hnL]; decide) h (fun x28 h => ?_)
        refine r_goto (pc := 55) (tgt := 24) dX6_dropOn_55 (by decide) ?_
        exact r_mask [true, true, false, true, true] rfl (ih16 _ _ h)
  exact r_mask [true, true, false, true, true] rfl (L17 _ _ _ h)
set_option maxHeartbeats 4000000 in
set_option maxRecDepth 100000 in
theorem tX6_closeOn (l : Launch) (G : gX) (u : gU) (hF : gFull u) (a1 a1n : Nat) (p2 : Int32) (p3 : Int32) (p4 : Int32) (m : gM) (o : gM × Int32) (h : fX6_closeOn a1 a1n p2 p3 p4 m = some o) (h1 : gIn u a1 7 a1n) : gMet l G u yX6_closeOn (.code yX6_closeOn cX6_closeOn 6 (some .int)) rmX6_closeOn [.ref a1, .int p2, .int p3, .int p4] m o.1 (some (.int o.2)) := by
  refine gMet_of (own := RX6) (k := 2) (by decide) rfl ⟨rfl, rfl⟩ (Nat.le_of_ble_eq_true rfl) [some (.ref a1), some (.int p2), some (.int p3), some (.int p4), none, none] rfl (fun Y hG hu hnL hLn hRm he => ?_)
  subst hG hu hLn
  unfold fX6_closeOn at h
  refine r_aload_n (pc := 0) dX6_closeOn_0 rfl rfl ?_
  refine r_bipush (pc := 1) (v := 20) dX6_closeOn_1 (by decide) ?_
  refine r_bipush (pc := 3) (v := 7) dX6_closeOn_3 (by decide) ?_
  refine r_iload_n (pc := 5) dX6_closeOn_5 rfl rfl ?_
  refine r_imul (pc := 6) dX6_closeOn_6 ?_
  refine r_iadd (pc := 7) dX6_closeOn_7 ?_
  refine r_iload_n (pc := 8) dX6_closeOn_8 rfl rfl ?_
  refine r_iadd (pc := 9) dX6_closeOn_9 ?_
  refine r_iload_n (pc := 10) dX6_closeOn_10 rfl rfl ?_
  refine r_jn1 h (fun x1 => AW Y cX6_closeOn RX6 19 [some (.ref a1), some (.int p2), none, none, none, none] [.int x1, .int ((20 + (7 * p2)) + p3), .ref a1] m) (fun x1 h => ?_) (fun hJ2 => ?_)
  · refine r_iast (pc := 19) dX6_closeOn_19 h1 h (fun m4 h => ?_)
    refine r_iconst (pc := 20) (v := 0) dX6_closeOn_20 (by decide) ?_
    refine r_istore (pc := 21) dX6_closeOn_21 (by rw [hnL]; decide) rfl ?_
    refine r_iconst (pc := 23) (v := 0) dX6_closeOn_23 (by decide) ?_
    refine r_istore (pc := 24) dX6_closeOn_24 (by rw [hnL]; decide) rfl ?_
    have L10 : ∀ (n8 : Nat) (v11 : Int32) (v12 : Int32) (m13 : gM), fX6_closeOn_L26 a1 a1n p2 n8 v11 v12 m13 = some o → AW Y cX6_closeOn RX6 26 [some (.ref a1), some (.int p2), none, none, some (.int v11), some (.int v12)] [] m13 := by
      intro n8
      induction n8 with
      | zero =>
        intro v11 v12 m13 h
        exact absurd h (by simp [fX6_closeOn_L26])
      | succ n8 ih9 =>
        intro v11 v12 m13 h
        rw [fX6_closeOn_L26] at h
        refine r_iload (pc := 26) dX6_closeOn_26 rfl ?_
        refine r_bipush (pc := 28) (v := 7) dX6_closeOn_28 (by decide) ?_
        refine r_icmp_ge (pc := 30) (tgt := 56) dX6_closeOn_30 (by decide) h (fun h => ?_) (fun h => ?_)
        · refine r_iload (pc := 56) dX6_closeOn_56 rfl ?_
          exact r_iretH dX6_closeOn_58 h he
        · refine r_iload (pc := 33) dX6_closeOn_33 rfl ?_
          refine r_aload_n (pc := 35) dX6_closeOn_35 rfl rfl ?_
          refine r_bipush (pc := 36) (v := 20) dX6_closeOn_36 (by decide) ?_
          refine r_bipush (pc := 38) (v := 7) dX6_closeOn_38 (by decide) ?_
          refine r_iload_n (pc := 40) dX6_closeOn_40 rfl rfl ?_
          refine r_imul (pc := 41) dX6_closeOn_41 ?_
          refine r_iadd (pc := 42) dX6_closeOn_42 ?_
          refine r_iload (pc := 43) dX6_closeOn_43 rfl ?_
          refine r_iadd (pc := 45) dX6_closeOn_45 ?_
          refine r_iald (pc := 46) dX6_closeOn_46 h1 h (fun x14 h => ?_)
          refine r_iadd (pc := 47) dX6_closeOn_47 ?_
          refine r_istoreL (pc := 48) dX6_closeOn_48 (by rw [hnL]; decide) h (fun x15 h => ?_)
          refine r_iinc (pc := 50) (d := 1) dX6_closeOn_50 rfl (by decide) (by rw [hnL]; decide) h (fun x16 h => ?_)
          refine r_goto (pc := 53) (tgt := 26) dX6_closeOn_53 (by decide) ?_
          exact r_mask [true, true, false, false, true, true] rfl (ih9 _ _ _ h)
    exact r_mask [true, true, false, false, true, true] rfl (L10 _ _ _ _ h)
  · refine r_ifC_eq (pc := 11) (tgt := 18) dX6_closeOn_11 (by decide) (fun g3 => ?_) (fun g3 => ?_)
    · refine r_iconst (pc := 18) (v := 0) dX6_closeOn_18 (by decide) ?_
      exact r_mask [true, true, false, false, false, false] rfl (hJ2 _ (by rw [if_pos g3]))
    · refine r_iconst (pc := 14) (v := 1) dX6_closeOn_14 (by decide) ?_
      refine r_goto (pc := 15) (tgt := 19) dX6_closeOn_15 (by decide) ?_
      exact r_mask [true, true, false, false, false, false] rfl (hJ2 _ (by rw [if_neg g3]))
set_option maxHeartbeats 4000000 in
set_option maxRecDepth 100000 in
theorem tX6_swapOn (l : Launch) (G : gX) (u : gU) (hF : gFull u) (a1 a1n : Nat) (p2 : Int32) (p3 : Int32) (m : gM) (o : gM × Int32) (h : fX6_swapOn a1 a1n p2 p3 m = some o) (h1 : gIn u a1 7 a1n) : gMet l G u yX6_swapOn (.code yX6_swapOn cX6_swapOn 5 (some .int)) rmX6_swapOn [.ref a1, .int p2, .int p3] m o.1 (some (.int o.2)) := by
  refine gMet_of (own := RX6) (k := 2) (by decide) rfl ⟨rfl, rfl⟩ (Nat.le_of_ble_eq_true rfl) [some (.ref a1), some (.int p2), some (.int p3), none, none] rfl (fun Y hG hu hnL hLn hRm he => ?_)
  subst hG hu hLn
  unfold fX6_swapOn at h
  refine r_aload_n (pc := 0) dX6_swapOn_0 rfl rfl ?_
  refine r_iload_n (pc := 1) dX6_swapOn_1 rfl rfl ?_
  obtain ⟨m1, x2, q3, h⟩ := gCl_some h
  refine r_callS (pc := 2) [.ref _, .int _] (tX6_placeOf _ _ _ hF _ _ _ _ _ q3 h1) ⟨rfl, rfl⟩ cd_X6_placeOf wX6_100 nm_X6_placeOf rfl (by rw [hRm]; decide) rfl (Nat.le_of_ble_eq_true rfl) dX6_swapOn_2 ?_
  refine r_istore_n (pc := 5) dX6_swapOn_5 rfl (by rw [hnL]; decide) rfl ?_
  refine r_aload_n (pc := 6) dX6_swapOn_6 rfl rfl ?_
  refine r_iload_n (pc := 7) dX6_swapOn_7 rfl rfl ?_
  obtain ⟨m4, x5, q6, h⟩ := gCl_some h
  refine r_callS (pc := 8) [.ref _, .int _] (tX6_placeOf _ _ _ hF _ _ _ _ _ q6 h1) ⟨rfl, rfl⟩ cd_X6_placeOf wX6_100 nm_X6_placeOf rfl (by rw [hRm]; decide) rfl (Nat.le_of_ble_eq_true rfl) dX6_swapOn_8 ?_
  refine r_istore (pc := 11) dX6_swapOn_11 (by rw [hnL]; decide) rfl ?_
  refine r_aload_n (pc := 13) dX6_swapOn_13 rfl rfl ?_
  refine r_bipush (pc := 14) (v := 16) dX6_swapOn_14 (by decide) ?_
  refine r_iload_n (pc := 16) dX6_swapOn_16 rfl rfl ?_
  refine r_iadd (pc := 17) dX6_swapOn_17 ?_
  refine r_iload_n (pc := 18) dX6_swapOn_18 rfl rfl ?_
  refine r_iast (pc := 19) dX6_swapOn_19 h1 h (fun m7 h => ?_)
  refine r_aload_n (pc := 20) dX6_swapOn_20 rfl rfl ?_
  refine r_bipush (pc := 21) (v := 16) dX6_swapOn_21 (by decide) ?_
  refine r_iload (pc := 23) dX6_swapOn_23 rfl ?_
  refine r_iadd (pc := 25) dX6_swapOn_25 ?_
  refine r_iload_n (pc := 26) dX6_swapOn_26 rfl rfl ?_
  refine r_iast (pc := 27) dX6_swapOn_27 h1 h (fun m8 h => ?_)
  refine r_iload (pc := 28) dX6_swapOn_28 rfl ?_
  exact r_iretH dX6_swapOn_30 h he
set_option maxHeartbeats 4000000 in
set_option maxRecDepth 100000 in
theorem tX6_append (l : Launch) (G : gX) (u : gU) (hF : gFull u) (p1 : Int32) (m : gM) (o : gM × Int32) (h : fX6_append p1 m = some o)  : gMet l G u yX6_append (.code yX6_append cX6_append 2 (some .int)) rmX6_append [.ref 5693, .int p1] m o.1 (some (.int o.2)) := by
  refine gMet_of (own := RX6) (k := 0) (by decide) rfl ⟨rfl, rfl⟩ (Nat.le_of_ble_eq_true rfl) [some (.ref 5693), some (.int p1)] rfl (fun Y hG hu hnL hLn hRm he => ?_)
  subst hG hu hLn
  unfold fX6_append at h
  refine r_aload_n (pc := 0) dX6_append_0 rfl rfl ?_
  refine r_iload_n (pc := 1) dX6_append_1 rfl rfl ?_
  refine r_i2l (pc := 2) dX6_append_2 ?_
  refine r_lconst (pc := 3) (v := 0) dX6_append_3 (by decide) ?_
  refine r_ldc2 (pc := 4) (v := 255) dX6_append_4 cX6_103 ?_
  obtain ⟨m1, x2, q3, h⟩ := gCl_some h
  refine r_callS (pc := 7) [.long _, .long _, .long _] (tX6_in _ _ _ hF _ _ _ _ _ q3) ⟨rfl, rfl⟩ cd_X6_in wX6_37 nm_X6_in rfl (by rw [hRm]; decide) rfl (Nat.le_of_ble_eq_true rfl) dX6_append_7 ?_
  refine r_jnK h (fun (k5 : Int32 → Option (gM × Int32)) => ∀ (x4 : Int32), k5 x4 = some o → AW Y cX6_append RX6 31 [some (.ref 5693), some (.int p1)] [.int x4, .ref 5693] m1) (fun x4 h => ?_) (fun k5 hJ6 h => ?_)
  · obtain ⟨m7, x8, q9, h⟩ := gCl_some h
    refine r_callV (kd := 5) (pc := 31) [.int _] (tX6_refused _ _ _ hF _ _ _ q9) ⟨rfl, rfl⟩ cd_X6_refused wX6_108 nm_X6_refused rfl (by rw [hRm]; decide) rfl (Nat.le_of_ble_eq_true rfl) rfl (by decide) (gO5 hF) dX6_append_31 ?_
    refine r_if_eq (pc := 34) (tgt := 39) dX6_append_34 (by decide) h (fun h => ?_) (fun h => ?_)
    · refine r_aload_n (pc := 39) dX6_append_39 rfl rfl ?_
      refine fX6_7 (pc := 40) hF dX6_append_40 (fun b10 => ?_)
      refine r_aload_n (pc := 43) dX6_append_43 rfl rfl ?_
      refine fX6_105 (pc := 44) dX6_append_44 (gO5 hF) h (fun x11 h => ?_)
      refine r_iload_n (pc := 47) dX6_append_47 rfl rfl ?_
      refine r_iast (pc := 48) dX6_append_48 b10 h (fun m12 h => ?_)
      refine r_aload_n (pc := 49) dX6_append_49 rfl rfl ?_
      refine r_dup (pc := 50) dX6_append_50 rfl ?_
      refine fX6_105 (pc := 51) dX6_append_51 (gO5 hF) h (fun x13 h => ?_)
      refine r_iconst (pc := 54) (v := 1) dX6_append_54 (by decide) ?_
      refine r_iadd (pc := 55) dX6_append_55 ?_
      refine fX6_105p (pc := 56) dX6_append_56 (gO5 hF) h (fun m14 h => ?_)
      refine r_aload_n (pc := 59) dX6_append_59 rfl rfl ?_
      refine fX6_105 (pc := 60) dX6_append_60 (gO5 hF) h (fun x15 h => ?_)
      exact r_iretH dX6_append_63 h he
    · refine r_iconst (pc := 37) (v := 0) dX6_append_37 (by decide) ?_
      exact r_iretH dX6_append_38 h he
  · refine r_if_ne (pc := 10) (tgt := 17) dX6_append_10 (by decide) h (fun h => ?_) (fun h => ?_)
    · refine r_aload_n (pc := 17) dX6_append_17 rfl rfl ?_
      refine fX6_105 (pc := 18) dX6_append_18 (gO5 hF) h (fun x16 h => ?_)
      refine r_bipush (pc := 21) (v := 120) dX6_append_21 (by decide) ?_
      refine r_icmp_ne (pc := 23) (tgt := 30) dX6_append_23 (by decide) h (fun h => ?_) (fun h => ?_)
      · refine r_iconst (pc := 30) (v := 0) dX6_append_30 (by decide) ?_
        exact r_mask [true, true] rfl (hJ6 _ h)
      · refine r_iconst (pc := 26) (v := 2) dX6_append_26 (by decide) ?_
        refine r_goto (pc := 27) (tgt := 31) dX6_append_27 (by decide) ?_
        exact r_mask [true, true] rfl (hJ6 _ h)
    · refine r_iconst (pc := 13) (v := 1) dX6_append_13 (by decide) ?_
      refine r_goto (pc := 14) (tgt := 31) dX6_append_14 (by decide) ?_
      exact r_mask [true, true] rfl (hJ6 _ h)
set_option maxHeartbeats 4000000 in
set_option maxRecDepth 100000 in
theorem tX6_clearText (l : Launch) (G : gX) (u : gU) (hF : gFull u)  (m : gM) (o : gM × Int32) (h : fX6_clearText  m = some o)  : gMet l G u yX6_clearText (.code yX6_clearText cX6_clearText 2 (some .int)) rmX6_clearText [.ref 5693] m o.1 (some (.int o.2)) := by
  refine gMet_of (own := RX6) (k := 1) (by decide) rfl ⟨rfl, rfl⟩ (Nat.le_of_ble_eq_true rfl) [some (.ref 5693), none] rfl (fun Y hG hu hnL hLn hRm he => ?_)
  subst hG hu hLn
  unfold fX6_clearText at h
  refine r_aload_n (pc := 0) dX6_clearText_0 rfl rfl ?_
  refine r_iconst (pc := 1) (v := 0) dX6_clearText_1 (by decide) ?_
  refine fX6_33p (pc := 2) dX6_clearText_2 (gO5 hF) h (fun m1 h => ?_)
  refine r_aload_n (pc := 5) dX6_clearText_5 rfl rfl ?_
  refine fX6_105 (pc := 6) dX6_clearText_6 (gO5 hF) h (fun x2 h => ?_)
  refine r_istore_n (pc := 9) dX6_clearText_9 rfl (by rw [hnL]; decide) rfl ?_
  refine r_aload_n (pc := 10) dX6_clearText_10 rfl rfl ?_
  refine r_iconst (pc := 11) (v := 0) dX6_clearText_11 (by decide) ?_
  refine fX6_105p (pc := 12) dX6_clearText_12 (gO5 hF) h (fun m3 h => ?_)
  refine r_iload_n (pc := 15) dX6_clearText_15 rfl rfl ?_
  exact r_iretH dX6_clearText_16 h he
set_option maxHeartbeats 4000000 in
set_option maxRecDepth 100000 in
theorem tX6_figures (l : Launch) (G : gX) (u : gU) (hF : gFull u) (p1 : Int32) (p2 : Int32) (p3 : Int32) (p4 : Int32) (m : gM) (o : gM × Int32) (h : fX6_figures p1 p2 p3 p4 m = some o)  : gMet l G u yX6_figures (.code yX6_figures cX6_figures 9 (some .int)) rmX6_figures [.ref 5693, .int p1, .int p2, .int p3, .int p4] m o.1 (some (.int o.2)) := by
  refine gMet_of (own := RX6) (k := 4) (by decide) rfl ⟨rfl, rfl⟩ (Nat.le_of_ble_eq_true rfl) [some (.ref 5693), some (.int p1), some (.int p2), some (.int p3), some (.int p4), none, none, none, none] rfl (fun Y hG hu hnL hLn hRm he => ?_)
  subst hG hu hLn
  unfold fX6_figures at h
  refine r_iconst (pc := 0) (v := 0) dX6_figures_0 (by decide) ?_
  refine r_istore (pc := 1) dX6_figures_1 (by rw [hnL]; decide) rfl ?_
  refine r_iload_n (pc := 3) dX6_figures_3 rfl rfl ?_
  refine r_istore (pc := 4) dX6_figures_4 (by rw [hnL]; decide) rfl ?_
  have L18 : ∀ (n16 : Nat) (v19 : Int32) (v20 : Int32) (m21 : gM), fX6_figures_L6 p1 p3 p4 n16 v19 v20 m21 = some o → AW Y cX6_figures RX6 6 [some (.ref 5693), some (.int p1), none, some (.int p3), some (.int p4), some (.int v19), some (.int v20), none, none] [] m21 := by
    intro n16
    induction n16 with
    | zero =>
      intro v19 v20 m21 h
      exact absurd h (by simp [fX6_figures_L6])
    | succ n16 ih17 =>
      intro v19 v20 m21 h
      rw [fX6_figures_L6] at h
      refine r_iload (pc := 6) dX6_figures_6 rfl ?_
      refine r_if_le (pc := 8) (tgt := 112) dX6_figures_8 (by decide) h (fun h => ?_) (fun h => ?_)
      · refine r_iload_n (pc := 112) dX6_figures_112 rfl rfl ?_
        refine r_iconst (pc := 113) (v := (-1)) dX6_figures_113 (by decide) ?_
        refine r_icmp_ne (pc := 114) (tgt := 121) dX6_figures_114 (by decide) h (fun h => ?_) (fun h => ?_)
        · refine r_iload (pc := 121) dX6_figures_121 rfl ?_
          exact r_iretH dX6_figures_123 h he
        · refine r_iconst (pc := 117) (v := (-1)) dX6_figures_117 (by decide) ?_
          refine r_goto (pc := 118) (tgt := 123) dX6_figures_118 (by decide) ?_
          exact r_iretH dX6_figures_123 h he
      · refine r_iload_n (pc := 11) dX6_figures_11 rfl rfl ?_
        refine r_iconst (pc := 12) (v := (-1)) dX6_figures_12 (by decide) ?_
        refine r_icmp_eq (pc := 13) (tgt := 112) dX6_figures_13 (by decide) h (fun h => ?_) (fun h => ?_)
        · refine r_iload_n (pc := 112) dX6_figures_112 rfl rfl ?_
          refine r_iconst (pc := 113) (v := (-1)) dX6_figures_113 (by decide) ?_
          refine r_icmp_ne (pc := 114) (tgt := 121) dX6_figures_114 (by decide) h (fun h => ?_) (fun h => ?_)
          · refine r_iload (pc := 121) dX6_figures_121 rfl ?_
            exact r_iretH dX6_figures_123 h he
          · refine r_iconst (pc := 117) (v := (-1)) dX6_figures_117 (by decide) ?_
            refine r_goto (pc := 118) (tgt := 123) dX6_figures_118 (by decide) ?_
            exact r_iretH dX6_figures_123 h he
        · refine r_aload_n (pc := 16) dX6_figures_16 rfl rfl ?_
          refine fX6_112 (pc := 17) dX6_figures_17 (gO5 hF) h (fun x22 h => ?_)
          refine r_aload_n (pc := 20) dX6_figures_20 rfl rfl ?_
          refine fX6_105 (pc := 21) dX6_figures_21 (gO5 hF) h (fun x23 h => ?_)
          refine r_jnK h (fun (k25 : Int32 → Option (gM × Int32)) => ∀ (x24 : Int32), k25 x24 = some o → AW Y cX6_figures RX6 43 [some (.ref 5693), some (.int p1), none, some (.int p3), some (.int p4), some (.int v19), some (.int v20), none, none] [.int x24] m21) (fun x24 h => ?_) (fun k25 hJ26 h => ?_)
          · refine r_istore (pc := 43) dX6_figures_43 (by rw [hnL]; decide) rfl ?_
            refine r_iload (pc := 45) dX6_figures_45 rfl ?_
            refine r_iload (pc := 47) dX6_figures_47 rfl ?_
            refine r_iload (pc := 49) dX6_figures_49 rfl ?_
            refine r_imul (pc := 51) dX6_figures_51 ?_
            refine r_iadd (pc := 52) dX6_figures_52 ?_
            refine r_istoreL (pc := 53) dX6_figures_53 (by rw [hnL]; decide) h (fun x27 h => ?_)
            refine r_iload (pc := 55) dX6_figures_55 rfl ?_
            refine r_i2l (pc := 57) dX6_figures_57 ?_
            refine r_lconst (pc := 58) (v := 0) dX6_figures_58 (by decide) ?_
            refine r_ldc2 (pc := 59) (v := 9) dX6_figures_59 cX6_47 ?_
            obtain ⟨m28, x29, q30, h⟩ := gCl_some h
            refine r_callS (pc := 62) [.long _, .long _, .long _] (tX6_in _ _ _ hF _ _ _ _ _ q30) ⟨rfl, rfl⟩ cd_X6_in wX6_37 nm_X6_in rfl (by rw [hRm]; decide) rfl (Nat.le_of_ble_eq_true rfl) dX6_figures_62 ?_
            refine r_if_eq (pc := 65) (tgt := 86) dX6_figures_65 (by decide) h (fun h => ?_) (fun h => ?_)
            · refine r_iconst (pc := 86) (v := (-1)) dX6_figures_86 (by decide) ?_
              exact r_iretH dX6_figures_87 h he
            · refine r_iload (pc := 68) dX6_figures_68 rfl ?_
              refine r_iload (pc := 70) dX6_figures_70 rfl ?_
              refine r_icmp_gt (pc := 72) (tgt := 86) dX6_figures_72 (by decide) h (fun h => ?_) (fun h => ?_)
              · refine r_iconst (pc := 86) (v := (-1)) dX6_figures_86 (by decide) ?_
                exact r_iretH dX6_figures_87 h he
              · refine r_iload (pc := 75) dX6_figures_75 rfl ?_
                refine r_iload (pc := 77) dX6_figures_77 rfl ?_
                refine r_iadd (pc := 79) dX6_figures_79 ?_
                refine r_iconst (pc := 80) (v := 1) dX6_figures_80 (by decide) ?_
                refine r_isub (pc := 81) dX6_figures_81 ?_
                refine r_iload_n (pc := 82) dX6_figures_82 rfl rfl ?_
                refine r_icmp_ge (pc := 83) (tgt := 88) dX6_figures_83 (by decide) h (fun h => ?_) (fun h => ?_)
                · refine r_iload (pc := 88) dX6_figures_88 rfl ?_
                  refine r_istore (pc := 90) dX6_figures_90 (by rw [hnL]; decide) rfl ?_
                  refine r_aload_n (pc := 92) dX6_figures_92 rfl rfl ?_
                  refine r_dup (pc := 93) dX6_figures_93 rfl ?_
                  refine fX6_112 (pc := 94) dX6_figures_94 (gO5 hF) h (fun x31 h => ?_)
                  refine r_iconst (pc := 97) (v := 1) dX6_figures_97 (by decide) ?_
                  refine r_iadd (pc := 98) dX6_figures_98 ?_
                  refine fX6_112p (pc := 99) dX6_figures_99 (gO5 hF) h (fun m32 h => ?_)
                  refine r_iload (pc := 102) dX6_figures_102 rfl ?_
                  refine r_bipush (pc := 104) (v := 10) dX6_figures_104 (by decide) ?_
                  refine r_idivc (pc := 106) dX6_figures_106 (by decide) ?_
                  refine r_istoreL (pc := 107) dX6_figures_107 (by rw [hnL]; decide) h (fun x33 h => ?_)
                  refine r_goto (pc := 109) (tgt := 6) dX6_figures_109 (by decide) ?_
                  exact r_mask [true, true, false, true, true, true, true, false, false] rfl (ih17 _ _ _ h)
                · refine r_iconst (pc := 86) (v := (-1)) dX6_figures_86 (by decide) ?_
                  exact r_iretH dX6_figures_87 h he
          · refine r_icmp_ge (pc := 24) (tgt := 42) dX6_figures_24 (by decide) h (fun h => ?_) (fun h => ?_)
            · refine r_iconst (pc := 42) (v := (-1)) dX6_figures_42 (by decide) ?_
              exact r_mask [true, true, false, true, true, true, true, false, false] rfl (hJ26 _ h)
            · refine r_aload_n (pc := 27) dX6_figures_27 rfl rfl ?_
              refine fX6_7 (pc := 28) hF dX6_figures_28 (fun b34 => ?_)
              refine r_aload_n (pc := 31) dX6_figures_31 rfl rfl ?_
              refine fX6_112 (pc := 32) dX6_figures_32 (gO5 hF) h (fun x35 h => ?_)
              refine r_iald (pc := 35) dX6_figures_35 b34 h (fun x36 h => ?_)
              refine r_bipush (pc := 36) (v := 48) dX6_figures_36 (by decide) ?_
              refine r_isub (pc := 38) dX6_figures_38 ?_
              refine r_goto (pc := 39) (tgt := 43) dX6_figures_39 (by decide) ?_
              exact r_mask [true, true, false, true, true, true, true, false, false] rfl (hJ26 _ h)
  exact r_mask [true, true, false, true, true, true, true, false, false] rfl (L18 _ _ _ _ h)
set_option maxHeartbeats 4000000 in
set_option maxRecDepth 100000 in
theorem tX6_done (l : Launch) (G : gX) (u : gU) (hF : gFull u) (p1 : Int32) (m : gM) (o : gM × Int32) (h : fX6_done p1 m = some o)  : gMet l G u yX6_done (.code yX6_done cX6_done 2 (some .boolean)) rmX6_done [.ref 5693, .int p1] m o.1 (some (.int o.2)) := by
  refine gMet_of (own := RX6) (k := 0) (by decide) rfl ⟨rfl, rfl⟩ (Nat.le_of_ble_eq_true rfl) [some (.ref 5693), some (.int p1)] rfl (fun Y hG hu hnL hLn hRm he => ?_)
  subst hG hu hLn
  unfold fX6_done at h
  refine r_aload_n (pc := 0) dX6_done_0 rfl rfl ?_
  refine r_dup (pc := 1) dX6_done_1 rfl ?_
  refine fX6_115 (pc := 2) dX6_done_2 (gO5 hF) h (fun x1 h => ?_)
  refine r_iload_n (pc := 5) dX6_done_5 rfl rfl ?_
  refine r_jn1 h (fun x2 => AW Y cX6_done RX6 14 [none, none] [.int x2, .int x1, .ref 5693] m) (fun x2 h => ?_) (fun hJ3 => ?_)
  · refine r_iadd (pc := 14) dX6_done_14 ?_
    refine fX6_115p (pc := 15) dX6_done_15 (gO5 hF) h (fun m5 h => ?_)
    refine r_iconst (pc := 18) (v := 1) dX6_done_18 (by decide) ?_
    exact r_zretH dX6_done_19 rfl h he
  · refine r_ifC_eq (pc := 6) (tgt := 13) dX6_done_6 (by decide) (fun g4 => ?_) (fun g4 => ?_)
    · refine r_iconst (pc := 13) (v := 1) dX6_done_13 (by decide) ?_
      exact r_mask [false, false] rfl (hJ3 _ (by rw [if_pos g4]))
    · refine r_iconst (pc := 9) (v := 0) dX6_done_9 (by decide) ?_
      refine r_goto (pc := 10) (tgt := 14) dX6_done_10 (by decide) ?_
      exact r_mask [false, false] rfl (hJ3 _ (by rw [if_neg g4]))
set_option maxHeartbeats 4000000 in
set_option maxRecDepth 100000 in
theorem tX6_customerSign (l : Launch) (G : gX) (u : gU) (hF : gFull u)  (m : gM) (o : gM × Int32) (h : fX6_customerSign  m = some o)  : gMet l G u yX6_customerSign (.code yX6_customerSign cX6_customerSign 1 (some .int)) rmX6_customerSign [.ref 5693] m o.1 (some (.int o.2)) := by
  refine gMet_of (own := RX6) (k := 0) (by decide) rfl ⟨rfl, rfl⟩ (Nat.le_of_ble_eq_true rfl) [some (.ref 5693)] rfl (fun Y hG hu hnL hLn hRm he => ?_)
  subst hG hu hLn
  unfold fX6_customerSign at h
  refine r_aload_n (pc := 0) dX6_customerSign_0 rfl rfl ?_
  refine r_iconst (pc := 1) (v := 0) dX6_customerSign_1 (by decide) ?_
  refine r_iconst (pc := 2) (v := 1) dX6_customerSign_2 (by decide) ?_
  refine r_iconst (pc := 3) (v := 0) dX6_customerSign_3 (by decide) ?_
  refine r_bipush (pc := 4) (v := 9) dX6_customerSign_4 (by decide) ?_
  obtain ⟨m1, x2, q3, h⟩ := gCl_some h
  refine r_callV (kd := 5) (pc := 6) [.int _, .int _, .int _, .int _] (tX6_figures _ _ _ hF _ _ _ _ _ _ q3) ⟨rfl, rfl⟩ cd_X6_figures wX6_118 nm_X6_figures rfl (by rw [hRm]; decide) rfl (Nat.le_of_ble_eq_true rfl) rfl (by decide) (gO5 hF) dX6_customerSign_6 ?_
  exact r_iretH dX6_customerSign_9 h he
set_option maxHeartbeats 4000000 in
set_option maxRecDepth 100000 in
theorem tX6_streetSign (l : Launch) (G : gX) (u : gU) (hF : gFull u) (p1 : Int32) (m : gM) (o : gM × Int32) (h : fX6_streetSign p1 m = some o)  : gMet l G u yX6_streetSign (.code yX6_streetSign cX6_streetSign 2 (some .int)) rmX6_streetSign [.ref 5693, .int p1] m o.1 (some (.int o.2)) := by
  refine gMet_of (own := RX6) (k := 0) (by decide) rfl ⟨rfl, rfl⟩ (Nat.le_of_ble_eq_true rfl) [some (.ref 5693), some (.int p1)] rfl (fun Y hG hu hnL hLn hRm he => ?_)
  subst hG hu hLn
  unfold fX6_streetSign at h
  refine r_aload_n (pc := 0) dX6_streetSign_0 rfl rfl ?_
  refine r_iload_n (pc := 1) dX6_streetSign_1 rfl rfl ?_
  refine r_iconst (pc := 2) (v := 1) dX6_streetSign_2 (by decide) ?_
  refine r_iconst (pc := 3) (v := 0) dX6_streetSign_3 (by decide) ?_
  refine r_iconst (pc := 4) (v := 3) dX6_streetSign_4 (by decide) ?_
  obtain ⟨m1, x2, q3, h⟩ := gCl_some h
  refine r_callV (kd := 5) (pc := 5) [.int _, .int _, .int _, .int _] (tX6_figures _ _ _ hF _ _ _ _ _ _ q3) ⟨rfl, rfl⟩ cd_X6_figures wX6_118 nm_X6_figures rfl (by rw [hRm]; decide) rfl (Nat.le_of_ble_eq_true rfl) rfl (by decide) (gO5 hF) dX6_streetSign_5 ?_
  exact r_iretH dX6_streetSign_8 h he
set_option maxHeartbeats 4000000 in
set_option maxRecDepth 100000 in
theorem tX6_readCustomer (l : Launch) (G : gX) (u : gU) (hF : gFull u) (a1 a1n : Nat) (m : gM) (o : gM × Int32) (h : fX6_readCustomer a1 a1n m = some o) (h1 : gIn u a1 7 a1n) : gMet l G u yX6_readCustomer (.code yX6_readCustomer cX6_readCustomer 4 (some .boolean)) rmX6_readCustomer [.ref 5693, .ref a1] m o.1 (some (.int o.2)) := by
  refine gMet_of (own := RX6) (k := 2) (by decide) rfl ⟨rfl, rfl⟩ (Nat.le_of_ble_eq_true rfl) [some (.ref 5693), some (.ref a1), none, none] rfl (fun Y hG hu hnL hLn hRm he => ?_)
  subst hG hu hLn
  unfold fX6_readCustomer at h
  refine r_aload_n (pc := 0) dX6_readCustomer_0 rfl rfl ?_
  refine r_iconst (pc := 1) (v := 0) dX6_readCustomer_1 (by decide) ?_
  obtain ⟨m1, x2, q3, h⟩ := gCl_some h
  refine r_callV (kd := 5) (pc := 2) [.int _] (tX6_streetSign _ _ _ hF _ _ _ q3) ⟨rfl, rfl⟩ cd_X6_streetSign wX6_122 nm_X6_streetSign rfl (by rw [hRm]; decide) rfl (Nat.le_of_ble_eq_true rfl) rfl (by decide) (gO5 hF) dX6_readCustomer_2 ?_
  refine r_istore_n (pc := 5) dX6_readCustomer_5 rfl (by rw [hnL]; decide) rfl ?_
  refine r_aload_n (pc := 6) dX6_readCustomer_6 rfl rfl ?_
  refine r_iload_n (pc := 7) dX6_readCustomer_7 rfl rfl ?_
  refine r_ldc (pc := 8) (v := 1000000) dX6_readCustomer_8 cX6_126 ?_
  refine r_iconst (pc := 10) (v := 0) dX6_readCustomer_10 (by decide) ?_
  refine r_ldc (pc := 11) (v := 9999999) dX6_readCustomer_11 cX6_127 ?_
  obtain ⟨m4, x5, q6, h⟩ := gCl_some h
  refine r_callV (kd := 5) (pc := 13) [.int _, .int _, .int _, .int _] (tX6_figures _ _ _ hF _ _ _ _ _ _ q6) ⟨rfl, rfl⟩ cd_X6_figures wX6_118 nm_X6_figures rfl (by rw [hRm]; decide) rfl (Nat.le_of_ble_eq_true rfl) rfl (by decide) (gO5 hF) dX6_readCustomer_13 ?_
  refine r_istore_n (pc := 16) dX6_readCustomer_16 rfl (by rw [hnL]; decide) rfl ?_
  refine r_iload_n (pc := 17) dX6_readCustomer_17 rfl rfl ?_
  refine r_iconst (pc := 18) (v := (-1)) dX6_readCustomer_18 (by decide) ?_
  refine r_icmp_eq (pc := 19) (tgt := 55) dX6_readCustomer_19 (by decide) h (fun h => ?_) (fun h => ?_)
  · refine r_iconst (pc := 55) (v := 0) dX6_readCustomer_55 (by decide) ?_
    exact r_zretH dX6_readCustomer_56 rfl h he
  · refine r_aload_n (pc := 22) dX6_readCustomer_22 rfl rfl ?_
    refine r_aload_n (pc := 23) dX6_readCustomer_23 rfl rfl ?_
    refine r_iconst (pc := 24) (v := 0) dX6_readCustomer_24 (by decide) ?_
    refine r_iald (pc := 25) dX6_readCustomer_25 h1 h (fun x7 h => ?_)
    refine r_bipush (pc := 26) (v := 10) dX6_readCustomer_26 (by decide) ?_
    refine r_jnK h (fun (k10 : Int32 → gM → Option (gM × Int32)) => ∀ (x8 : Int32) (m9 : gM), k10 x8 m9 = some o → AW Y cX6_readCustomer RX6 45 [none, none, none, none] [.int x8, .ref 5693] m9) (fun x8 m9 h => ?_) (fun k10 hJ11 h => ?_)
    · obtain ⟨m12, x13, q14, h⟩ := gCl_some h
      refine r_callV (kd := 5) (pc := 45) [.int _] (tX6_done _ _ _ hF _ _ _ q14) ⟨rfl, rfl⟩ cd_X6_done wX6_131 nm_X6_done rfl (by rw [hRm]; decide) rfl (Nat.le_of_ble_eq_true rfl) rfl (by decide) (gO5 hF) dX6_readCustomer_45 ?_
      refine r_if_eq (pc := 48) (tgt := 55) dX6_readCustomer_48 (by decide) h (fun h => ?_) (fun h => ?_)
      · refine r_iconst (pc := 55) (v := 0) dX6_readCustomer_55 (by decide) ?_
        exact r_zretH dX6_readCustomer_56 rfl h he
      · refine r_iconst (pc := 51) (v := 1) dX6_readCustomer_51 (by decide) ?_
        refine r_goto (pc := 52) (tgt := 56) dX6_readCustomer_52 (by decide) ?_
        exact r_zretH dX6_readCustomer_56 rfl h he
    · refine r_icmp_ge (pc := 28) (tgt := 44) dX6_readCustomer_28 (by decide) h (fun h => ?_) (fun h => ?_)
      · refine r_iconst (pc := 44) (v := 0) dX6_readCustomer_44 (by decide) ?_
        exact r_mask [false, false, false, false] rfl (hJ11 _ _ h)
      · refine r_aload_n (pc := 31) dX6_readCustomer_31 rfl rfl ?_
        refine r_iload_n (pc := 32) dX6_readCustomer_32 rfl rfl ?_
        refine r_iload_n (pc := 33) dX6_readCustomer_33 rfl rfl ?_
        obtain ⟨m15, x16, q17, h⟩ := gCl_some h
        refine r_callS (pc := 34) [.ref _, .int _, .int _] (tX6_customerOn _ _ _ hF _ _ _ _ _ _ q17 h1) ⟨rfl, rfl⟩ cd_X6_customerOn wX6_128 nm_X6_customerOn rfl (by rw [hRm]; decide) rfl (Nat.le_of_ble_eq_true rfl) dX6_readCustomer_34 ?_
        refine r_if_lt (pc := 37) (tgt := 44) dX6_readCustomer_37 (by decide) h (fun h => ?_) (fun h => ?_)
        · refine r_iconst (pc := 44) (v := 0) dX6_readCustomer_44 (by decide) ?_
          exact r_mask [false, false, false, false] rfl (hJ11 _ _ h)
        · refine r_iconst (pc := 40) (v := 1) dX6_readCustomer_40 (by decide) ?_
          refine r_goto (pc := 41) (tgt := 45) dX6_readCustomer_41 (by decide) ?_
          exact r_mask [false, false, false, false] rfl (hJ11 _ _ h)
set_option maxHeartbeats 4000000 in
set_option maxRecDepth 100000 in
theorem tX6_readChange (l : Launch) (G : gX) (u : gU) (hF : gFull u) (a1 a1n : Nat) (m : gM) (o : gM × Int32) (h : fX6_readChange a1 a1n m = some o) (h1 : gIn u a1 7 a1n) : gMet l G u yX6_readChange (.code yX6_readChange cX6_readChange 5 (some .boolean)) rmX6_readChange [.ref 5693, .ref a1] m o.1 (some (.int o.2)) := by
  refine gMet_of (own := RX6) (k := 3) (by decide) rfl ⟨rfl, rfl⟩ (Nat.le_of_ble_eq_true rfl) [some (.ref 5693), some (.ref a1), none, none, none] rfl (fun Y hG hu hnL hLn hRm he => ?_)
  subst hG hu hLn
  unfold fX6_readChange at h
  refine r_aload_n (pc := 0) dX6_readChange_0 rfl rfl ?_
  obtain ⟨m1, x2, q3, h⟩ := gCl_some h
  refine r_callV (kd := 5) (pc := 1) [] (tX6_customerSign _ _ _ hF  _ _ q3) ⟨rfl, rfl⟩ cd_X6_customerSign wX6_135 nm_X6_customerSign rfl (by rw [hRm]; decide) rfl (Nat.le_of_ble_eq_true rfl) rfl (by decide) (gO5 hF) dX6_readChange_1 ?_
  refine r_istore_n (pc := 4) dX6_readChange_4 rfl (by rw [hnL]; decide) rfl ?_
  refine r_aload_n (pc := 5) dX6_readChange_5 rfl rfl ?_
  refine r_iload_n (pc := 6) dX6_readChange_6 rfl rfl ?_
  refine r_iconst (pc := 7) (v := 1) dX6_readChange_7 (by decide) ?_
  refine r_iconst (pc := 8) (v := 0) dX6_readChange_8 (by decide) ?_
  refine r_bipush (pc := 9) (v := 6) dX6_readChange_9 (by decide) ?_
  obtain ⟨m4, x5, q6, h⟩ := gCl_some h
  refine r_callV (kd := 5) (pc := 11) [.int _, .int _, .int _, .int _] (tX6_figures _ _ _ hF _ _ _ _ _ _ q6) ⟨rfl, rfl⟩ cd_X6_figures wX6_118 nm_X6_figures rfl (by rw [hRm]; decide) rfl (Nat.le_of_ble_eq_true rfl) rfl (by decide) (gO5 hF) dX6_readChange_11 ?_
  refine r_istore_n (pc := 14) dX6_readChange_14 rfl (by rw [hnL]; decide) rfl ?_
  refine r_aload_n (pc := 15) dX6_readChange_15 rfl rfl ?_
  refine r_iload_n (pc := 16) dX6_readChange_16 rfl rfl ?_
  refine r_iconst (pc := 17) (v := 1) dX6_readChange_17 (by decide) ?_
  refine r_iconst (pc := 18) (v := 0) dX6_readChange_18 (by decide) ?_
  refine r_bipush (pc := 19) (v := 9) dX6_readChange_19 (by decide) ?_
  obtain ⟨m7, x8, q9, h⟩ := gCl_some h
  refine r_callV (kd := 5) (pc := 21) [.int _, .int _, .int _, .int _] (tX6_figures _ _ _ hF _ _ _ _ _ _ q9) ⟨rfl, rfl⟩ cd_X6_figures wX6_118 nm_X6_figures rfl (by rw [hRm]; decide) rfl (Nat.le_of_ble_eq_true rfl) rfl (by decide) (gO5 hF) dX6_readChange_21 ?_
  refine r_istore (pc := 24) dX6_readChange_24 (by rw [hnL]; decide) rfl ?_
  refine r_iload (pc := 26) dX6_readChange_26 rfl ?_
  refine r_iconst (pc := 28) (v := (-1)) dX6_readChange_28 (by decide) ?_
  refine r_icmp_eq (pc := 29) (tgt := 67) dX6_readChange_29 (by decide) h (fun h => ?_) (fun h => ?_)
  · refine r_iconst (pc := 67) (v := 0) dX6_readChange_67 (by decide) ?_
    exact r_zretH dX6_readChange_68 rfl h he
  · refine r_aload_n (pc := 32) dX6_readChange_32 rfl rfl ?_
    refine r_aload_n (pc := 33) dX6_readChange_33 rfl rfl ?_
    refine r_iload_n (pc := 34) dX6_readChange_34 rfl rfl ?_
    obtain ⟨m10, x11, q12, h⟩ := gCl_some h
    refine r_callS (pc := 35) [.ref _, .int _] (tX6_isCustomer _ _ _ hF _ _ _ _ _ q12 h1) ⟨rfl, rfl⟩ cd_X6_isCustomer wX6_139 nm_X6_isCustomer rfl (by rw [hRm]; decide) rfl (Nat.le_of_ble_eq_true rfl) dX6_readChange_35 ?_
    refine r_jnK h (fun (k15 : Int32 → gM → Option (gM × Int32)) => ∀ (x13 : Int32) (m14 : gM), k15 x13 m14 = some o → AW Y cX6_readChange RX6 57 [none, none, none, none, none] [.int x13, .ref 5693] m14) (fun x13 m14 h => ?_) (fun k15 hJ16 h => ?_)
    · obtain ⟨m17, x18, q19, h⟩ := gCl_some h
      refine r_callV (kd := 5) (pc := 57) [.int _] (tX6_done _ _ _ hF _ _ _ q19) ⟨rfl, rfl⟩ cd_X6_done wX6_131 nm_X6_done rfl (by rw [hRm]; decide) rfl (Nat.le_of_ble_eq_true rfl) rfl (by decide) (gO5 hF) dX6_readChange_57 ?_
      refine r_if_eq (pc := 60) (tgt := 67) dX6_readChange_60 (by decide) h (fun h => ?_) (fun h => ?_)
      · refine r_iconst (pc := 67) (v := 0) dX6_readChange_67 (by decide) ?_
        exact r_zretH dX6_readChange_68 rfl h he
      · refine r_iconst (pc := 63) (v := 1) dX6_readChange_63 (by decide) ?_
        refine r_goto (pc := 64) (tgt := 68) dX6_readChange_64 (by decide) ?_
        exact r_zretH dX6_readChange_68 rfl h he
    · refine r_if_eq (pc := 38) (tgt := 56) dX6_readChange_38 (by decide) h (fun h => ?_) (fun h => ?_)
      · refine r_iconst (pc := 56) (v := 0) dX6_readChange_56 (by decide) ?_
        exact r_mask [false, false, false, false, false] rfl (hJ16 _ _ h)
      · refine r_aload_n (pc := 41) dX6_readChange_41 rfl rfl ?_
        refine r_iload_n (pc := 42) dX6_readChange_42 rfl rfl ?_
        refine r_iload_n (pc := 43) dX6_readChange_43 rfl rfl ?_
        refine r_iload (pc := 44) dX6_readChange_44 rfl ?_
        obtain ⟨m20, x21, q22, h⟩ := gCl_some h
        refine r_callS (pc := 46) [.ref _, .int _, .int _, .int _] (tX6_changeOn _ _ _ hF _ _ _ _ _ _ _ q22 h1) ⟨rfl, rfl⟩ cd_X6_changeOn wX6_143 nm_X6_changeOn rfl (by rw [hRm]; decide) rfl (Nat.le_of_ble_eq_true rfl) dX6_readChange_46 ?_
        refine r_if_lt (pc := 49) (tgt := 56) dX6_readChange_49 (by decide) h (fun h => ?_) (fun h => ?_)
        · refine r_iconst (pc := 56) (v := 0) dX6_readChange_56 (by decide) ?_
          exact r_mask [false, false, false, false, false] rfl (hJ16 _ _ h)
        · refine r_iconst (pc := 52) (v := 1) dX6_readChange_52 (by decide) ?_
          refine r_goto (pc := 53) (tgt := 57) dX6_readChange_53 (by decide) ?_
          exact r_mask [false, false, false, false, false] rfl (hJ16 _ _ h)
set_option maxHeartbeats 4000000 in
set_option maxRecDepth 100000 in
theorem tX6_readHoliday (l : Launch) (G : gX) (u : gU) (hF : gFull u) (a1 a1n : Nat) (m : gM) (o : gM × Int32) (h : fX6_readHoliday a1 a1n m = some o) (h1 : gIn u a1 7 a1n) : gMet l G u yX6_readHoliday (.code yX6_readHoliday cX6_readHoliday 5 (some .boolean)) rmX6_readHoliday [.ref 5693, .ref a1] m o.1 (some (.int o.2)) := by
  refine gMet_of (own := RX6) (k := 3) (by decide) rfl ⟨rfl, rfl⟩ (Nat.le_of_ble_eq_true rfl) [some (.ref 5693), some (.ref a1), none, none, none] rfl (fun Y hG hu hnL hLn hRm he => ?_)
  subst hG hu hLn
  unfold fX6_readHoliday at h
  refine r_aload_n (pc := 0) dX6_readHoliday_0 rfl rfl ?_
  obtain ⟨m1, x2, q3, h⟩ := gCl_some h
  refine r_callV (kd := 5) (pc := 1) [] (tX6_customerSign _ _ _ hF  _ _ q3) ⟨rfl, rfl⟩ cd_X6_customerSign wX6_135 nm_X6_customerSign rfl (by rw [hRm]; decide) rfl (Nat.le_of_ble_eq_true rfl) rfl (by decide) (gO5 hF) dX6_readHoliday_1 ?_
  refine r_istore_n (pc := 4) dX6_readHoliday_4 rfl (by rw [hnL]; decide) rfl ?_
  refine r_aload_n (pc := 5) dX6_readHoliday_5 rfl rfl ?_
  refine r_iload_n (pc := 6) dX6_readHoliday_6 rfl rfl ?_
  refine r_bipush (pc := 7) (v := 10) dX6_readHoliday_7 (by decide) ?_
  refine r_iconst (pc := 9) (v := 0) dX6_readHoliday_9 (by decide) ?_
  refine r_bipush (pc := 10) (v := 99) dX6_readHoliday_10 (by decide) ?_
  obtain ⟨m4, x5, q6, h⟩ := gCl_some h
  refine r_callV (kd := 5) (pc := 12) [.int _, .int _, .int _, .int _] (tX6_figures _ _ _ hF _ _ _ _ _ _ q6) ⟨rfl, rfl⟩ cd_X6_figures wX6_118 nm_X6_figures rfl (by rw [hRm]; decide) rfl (Nat.le_of_ble_eq_true rfl) rfl (by decide) (gO5 hF) dX6_readHoliday_12 ?_
  refine r_istore_n (pc := 15) dX6_readHoliday_15 rfl (by rw [hnL]; decide) rfl ?_
  refine r_aload_n (pc := 16) dX6_readHoliday_16 rfl rfl ?_
  refine r_iload_n (pc := 17) dX6_readHoliday_17 rfl rfl ?_
  refine r_bipush (pc := 18) (v := 10) dX6_readHoliday_18 (by decide) ?_
  refine r_iconst (pc := 20) (v := 0) dX6_readHoliday_20 (by decide) ?_
  refine r_bipush (pc := 21) (v := 99) dX6_readHoliday_21 (by decide) ?_
  obtain ⟨m7, x8, q9, h⟩ := gCl_some h
  refine r_callV (kd := 5) (pc := 23) [.int _, .int _, .int _, .int _] (tX6_figures _ _ _ hF _ _ _ _ _ _ q9) ⟨rfl, rfl⟩ cd_X6_figures wX6_118 nm_X6_figures rfl (by rw [hRm]; decide) rfl (Nat.le_of_ble_eq_true rfl) rfl (by decide) (gO5 hF) dX6_readHoliday_23 ?_
  refine r_istore (pc := 26) dX6_readHoliday_26 (by rw [hnL]; decide) rfl ?_
  refine r_iload (pc := 28) dX6_readHoliday_28 rfl ?_
  refine r_iconst (pc := 30) (v := (-1)) dX6_readHoliday_30 (by decide) ?_
  refine r_icmp_eq (pc := 31) (tgt := 86) dX6_readHoliday_31 (by decide) h (fun h => ?_) (fun h => ?_)
  · refine r_iconst (pc := 86) (v := 0) dX6_readHoliday_86 (by decide) ?_
    exact r_zretH dX6_readHoliday_87 rfl h he
  · refine r_aload_n (pc := 34) dX6_readHoliday_34 rfl rfl ?_
    refine r_aload_n (pc := 35) dX6_readHoliday_35 rfl rfl ?_
    refine r_iload_n (pc := 36) dX6_readHoliday_36 rfl rfl ?_
    obtain ⟨m10, x11, q12, h⟩ := gCl_some h
    refine r_callS (pc := 37) [.ref _, .int _] (tX6_isCustomer _ _ _ hF _ _ _ _ _ q12 h1) ⟨rfl, rfl⟩ cd_X6_isCustomer wX6_139 nm_X6_isCustomer rfl (by rw [hRm]; decide) rfl (Nat.le_of_ble_eq_true rfl) dX6_readHoliday_37 ?_
    refine r_jnK h (fun (k15 : Int32 → gM → Option (gM × Int32)) => ∀ (x13 : Int32) (m14 : gM), k15 x13 m14 = some o → AW Y cX6_readHoliday RX6 76 [none, none, none, none, none] [.int x13, .ref 5693] m14) (fun x13 m14 h => ?_) (fun k15 hJ16 h => ?_)
    · obtain ⟨m17, x18, q19, h⟩ := gCl_some h
      refine r_callV (kd := 5) (pc := 76) [.int _] (tX6_done _ _ _ hF _ _ _ q19) ⟨rfl, rfl⟩ cd_X6_done wX6_131 nm_X6_done rfl (by rw [hRm]; decide) rfl (Nat.le_of_ble_eq_true rfl) rfl (by decide) (gO5 hF) dX6_readHoliday_76 ?_
      refine r_if_eq (pc := 79) (tgt := 86) dX6_readHoliday_79 (by decide) h (fun h => ?_) (fun h => ?_)
      · refine r_iconst (pc := 86) (v := 0) dX6_readHoliday_86 (by decide) ?_
        exact r_zretH dX6_readHoliday_87 rfl h he
      · refine r_iconst (pc := 82) (v := 1) dX6_readHoliday_82 (by decide) ?_
        refine r_goto (pc := 83) (tgt := 87) dX6_readHoliday_83 (by decide) ?_
        exact r_zretH dX6_readHoliday_87 rfl h he
    · refine r_if_eq (pc := 40) (tgt := 75) dX6_readHoliday_40 (by decide) h (fun h => ?_) (fun h => ?_)
      · refine r_iconst (pc := 75) (v := 0) dX6_readHoliday_75 (by decide) ?_
        exact r_mask [false, false, false, false, false] rfl (hJ16 _ _ h)
      · refine r_iload_n (pc := 43) dX6_readHoliday_43 rfl rfl ?_
        refine r_iload (pc := 44) dX6_readHoliday_44 rfl ?_
        refine r_icmp_gt (pc := 46) (tgt := 75) dX6_readHoliday_46 (by decide) h (fun h => ?_) (fun h => ?_)
        · refine r_iconst (pc := 75) (v := 0) dX6_readHoliday_75 (by decide) ?_
          exact r_mask [false, false, false, false, false] rfl (hJ16 _ _ h)
        · refine r_aload_n (pc := 49) dX6_readHoliday_49 rfl rfl ?_
          refine r_iload_n (pc := 50) dX6_readHoliday_50 rfl rfl ?_
          refine r_bipush (pc := 51) (v := 14) dX6_readHoliday_51 (by decide) ?_
          obtain ⟨m20, x21, q22, h⟩ := gCl_some h
          refine r_callS (pc := 53) [.ref _, .int _, .int _] (tX6_of _ _ _ hF _ _ _ _ _ _ q22 h1) ⟨rfl, rfl⟩ cd_X6_of wX6_53 nm_X6_of rfl (by rw [hRm]; decide) rfl (Nat.le_of_ble_eq_true rfl) dX6_readHoliday_53 ?_
          refine r_iconst (pc := 56) (v := 3) dX6_readHoliday_56 (by decide) ?_
          refine r_icmp_ge (pc := 57) (tgt := 75) dX6_readHoliday_57 (by decide) h (fun h => ?_) (fun h => ?_)
          · refine r_iconst (pc := 75) (v := 0) dX6_readHoliday_75 (by decide) ?_
            exact r_mask [false, false, false, false, false] rfl (hJ16 _ _ h)
          · refine r_aload_n (pc := 60) dX6_readHoliday_60 rfl rfl ?_
            refine r_iload_n (pc := 61) dX6_readHoliday_61 rfl rfl ?_
            refine r_iload_n (pc := 62) dX6_readHoliday_62 rfl rfl ?_
            refine r_iload (pc := 63) dX6_readHoliday_63 rfl ?_
            obtain ⟨m23, x24, q25, h⟩ := gCl_some h
            refine r_callS (pc := 65) [.ref _, .int _, .int _, .int _] (tX6_holidayOn _ _ _ hF _ _ _ _ _ _ _ q25 h1) ⟨rfl, rfl⟩ cd_X6_holidayOn wX6_146 nm_X6_holidayOn rfl (by rw [hRm]; decide) rfl (Nat.le_of_ble_eq_true rfl) dX6_readHoliday_65 ?_
            refine r_if_le (pc := 68) (tgt := 75) dX6_readHoliday_68 (by decide) h (fun h => ?_) (fun h => ?_)
            · refine r_iconst (pc := 75) (v := 0) dX6_readHoliday_75 (by decide) ?_
              exact r_mask [false, false, false, false, false] rfl (hJ16 _ _ h)
            · refine r_iconst (pc := 71) (v := 1) dX6_readHoliday_71 (by decide) ?_
              refine r_goto (pc := 72) (tgt := 76) dX6_readHoliday_72 (by decide) ?_
              exact r_mask [false, false, false, false, false] rfl (hJ16 _ _ h)
set_option maxHeartbeats 4000000 in
set_option maxRecDepth 100000 in
theorem tX6_readClose (l : Launch) (G : gX) (u : gU) (hF : gFull u) (a1 a1n : Nat) (m : gM) (o : gM × Int32) (h : fX6_readClose a1 a1n m = some o) (h1 : gIn u a1 7 a1n) : gMet l G u yX6_readClose (.code yX6_readClose cX6_readClose 5 (some .boolean)) rmX6_readClose [.ref 5693, .ref a1] m o.1 (some (.int o.2)) := by
  refine gMet_of (own := RX6) (k := 3) (by decide) rfl ⟨rfl, rfl⟩ (Nat.le_of_ble_eq_true rfl) [some (.ref 5693), some (.ref a1), none, none, none] rfl (fun Y hG hu hnL hLn hRm he => ?_)
  subst hG hu hLn
  unfold fX6_readClose at h
  refine r_aload_n (pc := 0) dX6_readClose_0 rfl rfl ?_
  refine r_iconst (pc := 1) (v := 0) dX6_readClose_1 (by decide) ?_
  obtain ⟨m1, x2, q3, h⟩ := gCl_some h
  refine r_callV (kd := 5) (pc := 2) [.int _] (tX6_streetSign _ _ _ hF _ _ _ q3) ⟨rfl, rfl⟩ cd_X6_streetSign wX6_122 nm_X6_streetSign rfl (by rw [hRm]; decide) rfl (Nat.le_of_ble_eq_true rfl) rfl (by decide) (gO5 hF) dX6_readClose_2 ?_
  refine r_istore_n (pc := 5) dX6_readClose_5 rfl (by rw [hnL]; decide) rfl ?_
  refine r_aload_n (pc := 6) dX6_readClose_6 rfl rfl ?_
  refine r_iload_n (pc := 7) dX6_readClose_7 rfl rfl ?_
  refine r_iconst (pc := 8) (v := 1) dX6_readClose_8 (by decide) ?_
  refine r_iconst (pc := 9) (v := 0) dX6_readClose_9 (by decide) ?_
  refine r_bipush (pc := 10) (v := 6) dX6_readClose_10 (by decide) ?_
  obtain ⟨m4, x5, q6, h⟩ := gCl_some h
  refine r_callV (kd := 5) (pc := 12) [.int _, .int _, .int _, .int _] (tX6_figures _ _ _ hF _ _ _ _ _ _ q6) ⟨rfl, rfl⟩ cd_X6_figures wX6_118 nm_X6_figures rfl (by rw [hRm]; decide) rfl (Nat.le_of_ble_eq_true rfl) rfl (by decide) (gO5 hF) dX6_readClose_12 ?_
  refine r_istore_n (pc := 15) dX6_readClose_15 rfl (by rw [hnL]; decide) rfl ?_
  refine r_iload_n (pc := 16) dX6_readClose_16 rfl rfl ?_
  refine r_iconst (pc := 17) (v := (-1)) dX6_readClose_17 (by decide) ?_
  refine r_icmp_eq (pc := 18) (tgt := 60) dX6_readClose_18 (by decide) h (fun h => ?_) (fun h => ?_)
  · refine r_iconst (pc := 60) (v := 0) dX6_readClose_60 (by decide) ?_
    exact r_zretH dX6_readClose_61 rfl h he
  · refine r_aload_n (pc := 21) dX6_readClose_21 rfl rfl ?_
    refine fX6_112 (pc := 22) dX6_readClose_22 (gO5 hF) h (fun x7 h => ?_)
    refine r_aload_n (pc := 25) dX6_readClose_25 rfl rfl ?_
    refine fX6_105 (pc := 26) dX6_readClose_26 (gO5 hF) h (fun x8 h => ?_)
    refine r_icmp_eq (pc := 29) (tgt := 60) dX6_readClose_29 (by decide) h (fun h => ?_) (fun h => ?_)
    · refine r_iconst (pc := 60) (v := 0) dX6_readClose_60 (by decide) ?_
      exact r_zretH dX6_readClose_61 rfl h he
    · refine r_aload_n (pc := 32) dX6_readClose_32 rfl rfl ?_
      refine fX6_7 (pc := 33) hF dX6_readClose_33 (fun b9 => ?_)
      refine r_aload_n (pc := 36) dX6_readClose_36 rfl rfl ?_
      refine fX6_112 (pc := 37) dX6_readClose_37 (gO5 hF) h (fun x10 h => ?_)
      refine r_iald (pc := 40) dX6_readClose_40 b9 h (fun x11 h => ?_)
      refine r_bipush (pc := 41) (v := 43) dX6_readClose_41 (by decide) ?_
      refine r_icmp_eq (pc := 43) (tgt := 62) dX6_readClose_43 (by decide) h (fun h => ?_) (fun h => ?_)
      · refine r_aload_n (pc := 62) dX6_readClose_62 rfl rfl ?_
        refine fX6_7 (pc := 63) hF dX6_readClose_63 (fun b12 => ?_)
        refine r_aload_n (pc := 66) dX6_readClose_66 rfl rfl ?_
        refine fX6_112 (pc := 67) dX6_readClose_67 (gO5 hF) h (fun x13 h => ?_)
        refine r_iald (pc := 70) dX6_readClose_70 b12 h (fun x14 h => ?_)
        refine r_bipush (pc := 71) (v := 43) dX6_readClose_71 (by decide) ?_
        refine r_jn1 h (fun x15 => AW Y cX6_readClose RX6 81 [some (.ref 5693), some (.ref a1), some (.int x2), some (.int x5), none] [.int x15] m4) (fun x15 h => ?_) (fun hJ16 => ?_)
        · refine r_istore (pc := 81) dX6_readClose_81 (by rw [hnL]; decide) rfl ?_
          refine r_aload_n (pc := 83) dX6_readClose_83 rfl rfl ?_
          refine r_dup (pc := 84) dX6_readClose_84 rfl ?_
          refine fX6_112 (pc := 85) dX6_readClose_85 (gO5 hF) h (fun x18 h => ?_)
          refine r_iconst (pc := 88) (v := 1) dX6_readClose_88 (by decide) ?_
          refine r_iadd (pc := 89) dX6_readClose_89 ?_
          refine fX6_112p (pc := 90) dX6_readClose_90 (gO5 hF) h (fun m19 h => ?_)
          refine r_aload_n (pc := 93) dX6_readClose_93 rfl rfl ?_
          refine r_aload_n (pc := 94) dX6_readClose_94 rfl rfl ?_
          refine r_iload_n (pc := 95) dX6_readClose_95 rfl rfl ?_
          refine r_iload_n (pc := 96) dX6_readClose_96 rfl rfl ?_
          refine r_iload (pc := 97) dX6_readClose_97 rfl ?_
          obtain ⟨m20, x21, q22, h⟩ := gCl_some h
          refine r_callS (pc := 99) [.ref _, .int _, .int _, .int _] (tX6_closeOn _ _ _ hF _ _ _ _ _ _ _ q22 h1) ⟨rfl, rfl⟩ cd_X6_closeOn wX6_149 nm_X6_closeOn rfl (by rw [hRm]; decide) rfl (Nat.le_of_ble_eq_true rfl) dX6_readClose_99 ?_
          refine r_jn1 h (fun x23 => AW Y cX6_readClose RX6 110 [none, none, none, none, none] [.int x23, .ref 5693] m20) (fun x23 h => ?_) (fun hJ24 => ?_)
          · obtain ⟨m26, x27, q28, h⟩ := gCl_some h
            refine r_callV (kd := 5) (pc := 110) [.int _] (tX6_done _ _ _ hF _ _ _ q28) ⟨rfl, rfl⟩ cd_X6_done wX6_131 nm_X6_done rfl (by rw [hRm]; decide) rfl (Nat.le_of_ble_eq_true rfl) rfl (by decide) (gO5 hF) dX6_readClose_110 ?_
            exact r_zretH dX6_readClose_113 rfl h he
          · refine r_ifC_lt (pc := 102) (tgt := 109) dX6_readClose_102 (by decide) (fun g25 => ?_) (fun g25 => ?_)
            · refine r_iconst (pc := 109) (v := 0) dX6_readClose_109 (by decide) ?_
              exact r_mask [false, false, false, false, false] rfl (hJ24 _ (by rw [if_pos g25]))
            · refine r_iconst (pc := 105) (v := 1) dX6_readClose_105 (by decide) ?_
              refine r_goto (pc := 106) (tgt := 110) dX6_readClose_106 (by decide) ?_
              exact r_mask [false, false, false, false, false] rfl (hJ24 _ (by rw [if_neg g25]))
        · refine r_icmpC_ne (pc := 73) (tgt := 80) dX6_readClose_73 (by decide) (fun g17 => ?_) (fun g17 => ?_)
          · refine r_iconst (pc := 80) (v := 0) dX6_readClose_80 (by decide) ?_
            exact r_mask [true, true, true, true, false] rfl (hJ16 _ (by rw [if_neg g17]))
          · refine r_iconst (pc := 76) (v := 1) dX6_readClose_76 (by decide) ?_
            refine r_goto (pc := 77) (tgt := 81) dX6_readClose_77 (by decide) ?_
            exact r_mask [true, true, true, true, false] rfl (hJ16 _ (by rw [if_pos g17]))
      · refine r_aload_n (pc := 46) dX6_readClose_46 rfl rfl ?_
        refine fX6_7 (pc := 47) hF dX6_readClose_47 (fun b29 => ?_)
        refine r_aload_n (pc := 50) dX6_readClose_50 rfl rfl ?_
        refine fX6_112 (pc := 51) dX6_readClose_51 (gO5 hF) h (fun x30 h => ?_)
        refine r_iald (pc := 54) dX6_readClose_54 b29 h (fun x31 h => ?_)
        refine r_bipush (pc := 55) (v := 45) dX6_readClose_55 (by decide) ?_
        refine r_icmp_eq (pc := 57) (tgt := 62) dX6_readClose_57 (by decide) h (fun h => ?_) (fun h => ?_)
        · refine r_aload_n (pc := 62) dX6_readClose_62 rfl rfl ?_
          refine fX6_7 (pc := 63) hF dX6_readClose_63 (fun b32 => ?_)
          refine r_aload_n (pc := 66) dX6_readClose_66 rfl rfl ?_
          refine fX6_112 (pc := 67) dX6_readClose_67 (gO5 hF) h (fun x33 h => ?_)
          refine r_iald (pc := 70) dX6_readClose_70 b32 h (fun x34 h => ?_)
          refine r_bipush (pc := 71) (v := 43) dX6_readClose_71 (by decide) ?_
          refine r_jn1 h (fun x35 => AW Y cX6_readClose RX6 81 [some (.ref 5693), some (.ref a1), some (.int x2), some (.int x5), none] [.int x35] m4) (fun x35 h => ?_) (fun hJ36 => ?_)
          · refine r_istore (pc := 81) dX6_readClose_81 (by rw [hnL]; decide) rfl ?_
            refine r_aload_n (pc := 83) dX6_readClose_83 rfl rfl ?_
            refine r_dup (pc := 84) dX6_readClose_84 rfl ?_
            refine fX6_112 (pc := 85) dX6_readClose_85 (gO5 hF) h (fun x38 h => ?_)
            refine r_iconst (pc := 88) (v := 1) dX6_readClose_88 (by decide) ?_
            refine r_iadd (pc := 89) dX6_readClose_89 ?_
            refine fX6_112p (pc := 90) dX6_readClose_90 (gO5 hF) h (fun m39 h => ?_)
            refine r_aload_n (pc := 93) dX6_readClose_93 rfl rfl ?_
            refine r_aload_n (pc := 94) dX6_readClose_94 rfl rfl ?_
            refine r_iload_n (pc := 95) dX6_readClose_95 rfl rfl ?_
            refine r_iload_n (pc := 96) dX6_readClose_96 rfl rfl ?_
            refine r_iload (pc := 97) dX6_readClose_97 rfl ?_
            obtain ⟨m40, x41, q42, h⟩ := gCl_some h
            refine r_callS (pc := 99) [.ref _, .int _, .int _, .int _] (tX6_closeOn _ _ _ hF _ _ _ _ _ _ _ q42 h1) ⟨rfl, rfl⟩ cd_X6_closeOn wX6_149 nm_X6_closeOn rfl (by rw [hRm]; decide) rfl (Nat.le_of_ble_eq_true rfl) dX6_readClose_99 ?_
            refine r_jn1 h (fun x43 => AW Y cX6_readClose RX6 110 [none, none, none, none, none] [.int x43, .ref 5693] m40) (fun x43 h => ?_) (fun hJ44 => ?_)
            · obtain ⟨m46, x47, q48, h⟩ := gCl_some h
              refine r_callV (kd := 5) (pc := 110) [.int _] (tX6_done _ _ _ hF _ _ _ q48) ⟨rfl, rfl⟩ cd_X6_done wX6_131 nm_X6_done rfl (by rw [hRm]; decide) rfl (Nat.le_of_ble_eq_true rfl) rfl (by decide) (gO5 hF) dX6_readClose_110 ?_
              exact r_zretH dX6_readClose_113 rfl h he
            · refine r_ifC_lt (pc := 102) (tgt := 109) dX6_readClose_102 (by decide) (fun g45 => ?_) (fun g45 => ?_)
              · refine r_iconst (pc := 109) (v := 0) dX6_readClose_109 (by decide) ?_
                exact r_mask [false, false, false, false, false] rfl (hJ44 _ (by rw [if_pos g45]))
              · refine r_iconst (pc := 105) (v := 1) dX6_readClose_105 (by decide) ?_
                refine r_goto (pc := 106) (tgt := 110) dX6_readClose_106 (by decide) ?_
                exact r_mask [false, false, false, false, false] rfl (hJ44 _ (by rw [if_neg g45]))
          · refine r_icmpC_ne (pc := 73) (tgt := 80) dX6_readClose_73 (by decide) (fun g37 => ?_) (fun g37 => ?_)
            · refine r_iconst (pc := 80) (v := 0) dX6_readClose_80 (by decide) ?_
              exact r_mask [true, true, true, true, false] rfl (hJ36 _ (by rw [if_neg g37]))
            · refine r_iconst (pc := 76) (v := 1) dX6_readClose_76 (by decide) ?_
              refine r_goto (pc := 77) (tgt := 81) dX6_readClose_77 (by decide) ?_
              exact r_mask [true, true, true, true, false] rfl (hJ36 _ (by rw [if_pos g37]))
        · refine r_iconst (pc := 60) (v := 0) dX6_readClose_60 (by decide) ?_
          exact r_zretH dX6_readClose_61 rfl h he
set_option maxHeartbeats 4000000 in
set_option maxRecDepth 100000 in
theorem tX6_readCommand (l : Launch) (G : gX) (u : gU) (hF : gFull u) (a1 a1n : Nat) (m : gM) (o : gM × Int32) (h : fX6_readCommand a1 a1n m = some o) (h1 : gIn u a1 7 a1n) : gMet l G u yX6_readCommand (.code yX6_readCommand cX6_readCommand 5 (some .boolean)) rmX6_readCommand [.ref 5693, .ref a1] m o.1 (some (.int o.2)) := by
  refine gMet_of (own := RX6) (k := 3) (by decide) rfl ⟨rfl, rfl⟩ (Nat.le_of_ble_eq_true rfl) [some (.ref 5693), some (.ref a1), none, none, none] rfl (fun Y hG hu hnL hLn hRm he => ?_)
  subst hG hu hLn
  unfold fX6_readCommand at h
  refine r_aload_n (pc := 0) dX6_readCommand_0 rfl rfl ?_
  refine fX6_7 (pc := 1) hF dX6_readCommand_1 (fun b1 => ?_)
  refine r_aload_n (pc := 4) dX6_readCommand_4 rfl rfl ?_
  refine fX6_112 (pc := 5) dX6_readCommand_5 (gO5 hF) h (fun x2 h => ?_)
  refine r_iald (pc := 8) dX6_readCommand_8 b1 h (fun x3 h => ?_)
  refine r_istore_n (pc := 9) dX6_readCommand_9 rfl (by rw [hnL]; decide) rfl ?_
  refine r_aload_n (pc := 10) dX6_readCommand_10 rfl rfl ?_
  refine r_dup (pc := 11) dX6_readCommand_11 rfl ?_
  refine fX6_112 (pc := 12) dX6_readCommand_12 (gO5 hF) h (fun x4 h => ?_)
  refine r_iconst (pc := 15) (v := 1) dX6_readCommand_15 (by decide) ?_
  refine r_iadd (pc := 16) dX6_readCommand_16 ?_
  refine fX6_112p (pc := 17) dX6_readCommand_17 (gO5 hF) h (fun m5 h => ?_)
  refine r_iload_n (pc := 20) dX6_readCommand_20 rfl rfl ?_
  refine r_sw h (fun g6 h => ?_) (fun g6 h => ?_)
  · refine r_tabIn (pc := 21) (tgt := 124) (v := 99) dX6_readCommand_21 g6 (by decide) (by decide) rfl (by decide) ?_
    refine r_aload_n (pc := 124) dX6_readCommand_124 rfl rfl ?_
    refine r_aload_n (pc := 125) dX6_readCommand_125 rfl rfl ?_
    obtain ⟨m7, x8, q9, h⟩ := gCl_some h
    refine r_callV (kd := 5) (pc := 126) [.ref _] (tX6_readCustomer _ _ _ hF _ _ _ _ q9 h1) ⟨rfl, rfl⟩ cd_X6_readCustomer wX6_153 nm_X6_readCustomer rfl (by rw [hRm]; decide) rfl (Nat.le_of_ble_eq_true rfl) rfl (by decide) (gO5 hF) dX6_readCommand_126 ?_
    exact r_zretH dX6_readCommand_129 rfl h he
  refine r_sw h (fun g10 h => ?_) (fun g10 h => ?_)
  · refine r_tabIn (pc := 21) (tgt := 262) (v := 100) dX6_readCommand_21 g10 (by decide) (by decide) rfl (by decide) ?_
    refine r_aload_n (pc := 262) dX6_readCommand_262 rfl rfl ?_
    refine r_iconst (pc := 263) (v := 0) dX6_readCommand_263 (by decide) ?_
    refine r_bipush (pc := 264) (v := 10) dX6_readCommand_264 (by decide) ?_
    refine r_iconst (pc := 266) (v := 1) dX6_readCommand_266 (by decide) ?_
    refine r_bipush (pc := 267) (v := 60) dX6_readCommand_267 (by decide) ?_
    obtain ⟨m11, x12, q13, h⟩ := gCl_some h
    refine r_callV (kd := 5) (pc := 269) [.int _, .int _, .int _, .int _] (tX6_figures _ _ _ hF _ _ _ _ _ _ q13) ⟨rfl, rfl⟩ cd_X6_figures wX6_118 nm_X6_figures rfl (by rw [hRm]; decide) rfl (Nat.le_of_ble_eq_true rfl) rfl (by decide) (gO5 hF) dX6_readCommand_269 ?_
    refine r_istore_n (pc := 272) dX6_readCommand_272 rfl (by rw [hnL]; decide) rfl ?_
    refine r_iload_n (pc := 273) dX6_readCommand_273 rfl rfl ?_
    refine r_iconst (pc := 274) (v := (-1)) dX6_readCommand_274 (by decide) ?_
    refine r_icmp_eq (pc := 275) (tgt := 302) dX6_readCommand_275 (by decide) h (fun h => ?_) (fun h => ?_)
    · refine r_iconst (pc := 302) (v := 0) dX6_readCommand_302 (by decide) ?_
      exact r_zretH dX6_readCommand_303 rfl h he
    · refine r_aload_n (pc := 278) dX6_readCommand_278 rfl rfl ?_
      refine r_aload_n (pc := 279) dX6_readCommand_279 rfl rfl ?_
      refine r_iload_n (pc := 280) dX6_readCommand_280 rfl rfl ?_
      obtain ⟨m14, x15, q16, h⟩ := gCl_some h
      refine r_callS (pc := 281) [.ref _, .int _] (tX6_daysOn _ _ _ hF _ _ _ _ _ q16 h1) ⟨rfl, rfl⟩ cd_X6_daysOn wX6_173 nm_X6_daysOn rfl (by rw [hRm]; decide) rfl (Nat.le_of_ble_eq_true rfl) dX6_readCommand_281 ?_
      refine r_jn1 h (fun x17 => AW Y cX6_readCommand RX6 292 [none, none, none, none, none] [.int x17, .ref 5693] m14) (fun x17 h => ?_) (fun hJ18 => ?_)
      · obtain ⟨m20, x21, q22, h⟩ := gCl_some h
        refine r_callV (kd := 5) (pc := 292) [.int _] (tX6_done _ _ _ hF _ _ _ q22) ⟨rfl, rfl⟩ cd_X6_done wX6_131 nm_X6_done rfl (by rw [hRm]; decide) rfl (Nat.le_of_ble_eq_true rfl) rfl (by decide) (gO5 hF) dX6_readCommand_292 ?_
        refine r_if_eq (pc := 295) (tgt := 302) dX6_readCommand_295 (by decide) h (fun h => ?_) (fun h => ?_)
        · refine r_iconst (pc := 302) (v := 0) dX6_readCommand_302 (by decide) ?_
          exact r_zretH dX6_readCommand_303 rfl h he
        · refine r_iconst (pc := 298) (v := 1) dX6_readCommand_298 (by decide) ?_
          refine r_goto (pc := 299) (tgt := 303) dX6_readCommand_299 (by decide) ?_
          exact r_zretH dX6_readCommand_303 rfl h he
      · refine r_ifC_lt (pc := 284) (tgt := 291) dX6_readCommand_284 (by decide) (fun g19 => ?_) (fun g19 => ?_)
        · refine r_iconst (pc := 291) (v := 0) dX6_readCommand_291 (by decide) ?_
          exact r_mask [false, false, false, false, false] rfl (hJ18 _ (by rw [if_pos g19]))
        · refine r_iconst (pc := 287) (v := 1) dX6_readCommand_287 (by decide) ?_
          refine r_goto (pc := 288) (tgt := 292) dX6_readCommand_288 (by decide) ?_
          exact r_mask [false, false, false, false, false] rfl (hJ18 _ (by rw [if_neg g19]))
  refine r_sw h (fun g23 h => ?_) (fun g23 h => ?_)
  · refine r_tabIn (pc := 21) (tgt := 304) (v := 101) dX6_readCommand_21 g23 (by decide) (by decide) rfl (by decide) ?_
    refine r_aload_n (pc := 304) dX6_readCommand_304 rfl rfl ?_
    refine r_dup (pc := 305) dX6_readCommand_305 rfl ?_
    refine fX6_112 (pc := 306) dX6_readCommand_306 (gO5 hF) h (fun x24 h => ?_)
    refine r_iconst (pc := 309) (v := 1) dX6_readCommand_309 (by decide) ?_
    refine r_isub (pc := 310) dX6_readCommand_310 ?_
    refine fX6_112p (pc := 311) dX6_readCommand_311 (gO5 hF) h (fun m25 h => ?_)
    refine r_iconst (pc := 314) (v := 0) dX6_readCommand_314 (by decide) ?_
    exact r_zretH dX6_readCommand_315 rfl h he
  refine r_sw h (fun g26 h => ?_) (fun g26 h => ?_)
  · refine r_tabIn (pc := 21) (tgt := 304) (v := 102) dX6_readCommand_21 g26 (by decide) (by decide) rfl (by decide) ?_
    refine r_aload_n (pc := 304) dX6_readCommand_304 rfl rfl ?_
    refine r_dup (pc := 305) dX6_readCommand_305 rfl ?_
    refine fX6_112 (pc := 306) dX6_readCommand_306 (gO5 hF) h (fun x27 h => ?_)
    refine r_iconst (pc := 309) (v := 1) dX6_readCommand_309 (by decide) ?_
    refine r_isub (pc := 310) dX6_readCommand_310 ?_
    refine fX6_112p (pc := 311) dX6_readCommand_311 (gO5 hF) h (fun m28 h => ?_)
    refine r_iconst (pc := 314) (v := 0) dX6_readCommand_314 (by decide) ?_
    exact r_zretH dX6_readCommand_315 rfl h he
  refine r_sw h (fun g29 h => ?_) (fun g29 h => ?_)
  · refine r_tabIn (pc := 21) (tgt := 304) (v := 103) dX6_readCommand_21 g29 (by decide) (by decide) rfl (by decide) ?_
    refine r_aload_n (pc := 304) dX6_readCommand_304 rfl rfl ?_
    refine r_dup (pc := 305) dX6_readCommand_305 rfl ?_
    refine fX6_112 (pc := 306) dX6_readCommand_306 (gO5 hF) h (fun x30 h => ?_)
    refine r_iconst (pc := 309) (v := 1) dX6_readCommand_309 (by decide) ?_
    refine r_isub (pc := 310) dX6_readCommand_310 ?_
    refine fX6_112p (pc := 311) dX6_readCommand_311 (gO5 hF) h (fun m31 h => ?_)
    refine r_iconst (pc := 314) (v := 0) dX6_readCommand_314 (by decide) ?_
    exact r_zretH dX6_readCommand_315 rfl h he
  refine r_sw h (fun g32 h => ?_) (fun g32 h => ?_)
  · refine r_tabIn (pc := 21) (tgt := 136) (v := 104) dX6_readCommand_21 g32 (by decide) (by decide) rfl (by decide) ?_
    refine r_aload_n (pc := 136) dX6_readCommand_136 rfl rfl ?_
    refine r_aload_n (pc := 137) dX6_readCommand_137 rfl rfl ?_
    obtain ⟨m33, x34, q35, h⟩ := gCl_some h
    refine r_callV (kd := 5) (pc := 138) [.ref _] (tX6_readHoliday _ _ _ hF _ _ _ _ q35 h1) ⟨rfl, rfl⟩ cd_X6_readHoliday wX6_160 nm_X6_readHoliday rfl (by rw [hRm]; decide) rfl (Nat.le_of_ble_eq_true rfl) rfl (by decide) (gO5 hF) dX6_readCommand_138 ?_
    exact r_zretH dX6_readCommand_141 rfl h he
  refine r_sw h (fun g36 h => ?_) (fun g36 h => ?_)
  · refine r_tabIn (pc := 21) (tgt := 304) (v := 105) dX6_readCommand_21 g36 (by decide) (by decide) rfl (by decide) ?_
    refine r_aload_n (pc := 304) dX6_readCommand_304 rfl rfl ?_
    refine r_dup (pc := 305) dX6_readCommand_305 rfl ?_
    refine fX6_112 (pc := 306) dX6_readCommand_306 (gO5 hF) h (fun x37 h => ?_)
    refine r_iconst (pc := 309) (v := 1) dX6_readCommand_309 (by decide) ?_
    refine r_isub (pc := 310) dX6_readCommand_310 ?_
    refine fX6_112p (pc := 311) dX6_readCommand_311 (gO5 hF) h (fun m38 h => ?_)
    refine r_iconst (pc := 314) (v := 0) dX6_readCommand_314 (by decide) ?_
    exact r_zretH dX6_readCommand_315 rfl h he
  refine r_sw h (fun g39 h => ?_) (fun g39 h => ?_)
  · refine r_tabIn (pc := 21) (tgt := 304) (v := 106) dX6_readCommand_21 g39 (by decide) (by decide) rfl (by decide) ?_
    refine r_aload_n (pc := 304) dX6_readCommand_304 rfl rfl ?_
    refine r_dup (pc := 305) dX6_readCommand_305 rfl ?_
    refine fX6_112 (pc := 306) dX6_readCommand_306 (gO5 hF) h (fun x40 h => ?_)
    refine r_iconst (pc := 309) (v := 1) dX6_readCommand_309 (by decide) ?_
    refine r_isub (pc := 310) dX6_readCommand_310 ?_
    refine fX6_112p (pc := 311) dX6_readCommand_311 (gO5 hF) h (fun m41 h => ?_)
    refine r_iconst (pc := 314) (v := 0) dX6_readCommand_314 (by decide) ?_
    exact r_zretH dX6_readCommand_315 rfl h he
  refine r_sw h (fun g42 h => ?_) (fun g42 h => ?_)
  · refine r_tabIn (pc := 21) (tgt := 304) (v := 107) dX6_readCommand_21 g42 (by decide) (by decide) rfl (by decide) ?_
    refine r_aload_n (pc := 304) dX6_readCommand_304 rfl rfl ?_
    refine r_dup (pc := 305) dX6_readCommand_305 rfl ?_
    refine fX6_112 (pc := 306) dX6_readCommand_306 (gO5 hF) h (fun x43 h => ?_)
    refine r_iconst (pc := 309) (v := 1) dX6_readCommand_309 (by decide) ?_
    refine r_isub (pc := 310) dX6_readCommand_310 ?_
    refine fX6_112p (pc := 311) dX6_readCommand_311 (gO5 hF) h (fun m44 h => ?_)
    refine r_iconst (pc := 314) (v := 0) dX6_readCommand_314 (by decide) ?_
    exact r_zretH dX6_readCommand_315 rfl h he
  refine r_sw h (fun g45 h => ?_) (fun g45 h => ?_)
  · refine r_tabIn (pc := 21) (tgt := 304) (v := 108) dX6_readCommand_21 g45 (by decide) (by decide) rfl (by decide) ?_
    refine r_aload_n (pc := 304) dX6_readCommand_304 rfl rfl ?_
    refine r_dup (pc := 305) dX6_readCommand_305 rfl ?_
    refine fX6_112 (pc := 306) dX6_readCommand_306 (gO5 hF) h (fun x46 h => ?_)
    refine r_iconst (pc := 309) (v := 1) dX6_readCommand_309 (by decide) ?_
    refine r_isub (pc := 310) dX6_readCommand_310 ?_
    refine fX6_112p (pc := 311) dX6_readCommand_311 (gO5 hF) h (fun m47 h => ?_)
    refine r_iconst (pc := 314) (v := 0) dX6_readCommand_314 (by decide) ?_
    exact r_zretH dX6_readCommand_315 rfl h he
  refine r_sw h (fun g48 h => ?_) (fun g48 h => ?_)
  · refine r_tabIn (pc := 21) (tgt := 304) (v := 109) dX6_readCommand_21 g48 (by decide) (by decide) rfl (by decide) ?_
    refine r_aload_n (pc := 304) dX6_readCommand_304 rfl rfl ?_
    refine r_dup (pc := 305) dX6_readCommand_305 rfl ?_
    refine fX6_112 (pc := 306) dX6_readCommand_306 (gO5 hF) h (fun x49 h => ?_)
    refine r_iconst (pc := 309) (v := 1) dX6_readCommand_309 (by decide) ?_
    refine r_isub (pc := 310) dX6_readCommand_310 ?_
    refine fX6_112p (pc := 311) dX6_readCommand_311 (gO5 hF) h (fun m50 h => ?_)
    refine r_iconst (pc := 314) (v := 0) dX6_readCommand_314 (by decide) ?_
    exact r_zretH dX6_readCommand_315 rfl h he
  refine r_sw h (fun g51 h => ?_) (fun g51 h => ?_)
  · refine r_tabIn (pc := 21) (tgt := 130) (v := 110) dX6_readCommand_21 g51 (by decide) (by decide) rfl (by decide) ?_
    refine r_aload_n (pc := 130) dX6_readCommand_130 rfl rfl ?_
    refine r_aload_n (pc := 131) dX6_readCommand_131 rfl rfl ?_
    obtain ⟨m52, x53, q54, h⟩ := gCl_some h
    refine r_callV (kd := 5) (pc := 132) [.ref _] (tX6_readChange _ _ _ hF _ _ _ _ q54 h1) ⟨rfl, rfl⟩ cd_X6_readChange wX6_157 nm_X6_readChange rfl (by rw [hRm]; decide) rfl (Nat.le_of_ble_eq_true rfl) rfl (by decide) (gO5 hF) dX6_readCommand_132 ?_
    exact r_zretH dX6_readCommand_135 rfl h he
  refine r_sw h (fun g55 h => ?_) (fun g55 h => ?_)
  · refine r_tabIn (pc := 21) (tgt := 304) (v := 111) dX6_readCommand_21 g55 (by decide) (by decide) rfl (by decide) ?_
    refine r_aload_n (pc := 304) dX6_readCommand_304 rfl rfl ?_
    refine r_dup (pc := 305) dX6_readCommand_305 rfl ?_
    refine fX6_112 (pc := 306) dX6_readCommand_306 (gO5 hF) h (fun x56 h => ?_)
    refine r_iconst (pc := 309) (v := 1) dX6_readCommand_309 (by decide) ?_
    refine r_isub (pc := 310) dX6_readCommand_310 ?_
    refine fX6_112p (pc := 311) dX6_readCommand_311 (gO5 hF) h (fun m57 h => ?_)
    refine r_iconst (pc := 314) (v := 0) dX6_readCommand_314 (by decide) ?_
    exact r_zretH dX6_readCommand_315 rfl h he
  refine r_sw h (fun g58 h => ?_) (fun g58 h => ?_)
  · refine r_tabIn (pc := 21) (tgt := 304) (v := 112) dX6_readCommand_21 g58 (by decide) (by decide) rfl (by decide) ?_
    refine r_aload_n (pc := 304) dX6_readCommand_304 rfl rfl ?_
    refine r_dup (pc := 305) dX6_readCommand_305 rfl ?_
    refine fX6_112 (pc := 306) dX6_readCommand_306 (gO5 hF) h (fun x59 h => ?_)
    refine r_iconst (pc := 309) (v := 1) dX6_readCommand_309 (by decide) ?_
    refine r_isub (pc := 310) dX6_readCommand_310 ?_
    refine fX6_112p (pc := 311) dX6_readCommand_311 (gO5 hF) h (fun m60 h => ?_)
    refine r_iconst (pc := 314) (v := 0) dX6_readCommand_314 (by decide) ?_
    exact r_zretH dX6_readCommand_315 rfl h he
  refine r_sw h (fun g61 h => ?_) (fun g61 h => ?_)
  · refine r_tabIn (pc := 21) (tgt := 304) (v := 113) dX6_readCommand_21 g61 (by decide) (by decide) rfl (by decide) ?_
    refine r_aload_n (pc := 304) dX6_readCommand_304 rfl rfl ?_
    refine r_dup (pc := 305) dX6_readCommand_305 rfl ?_
    refine fX6_112 (pc := 306) dX6_readCommand_306 (gO5 hF) h (fun x62 h => ?_)
    refine r_iconst (pc := 309) (v := 1) dX6_readCommand_309 (by decide) ?_
    refine r_isub (pc := 310) dX6_readCommand_310 ?_
    refine fX6_112p (pc := 311) dX6_readCommand_311 (gO5 hF) h (fun m63 h => ?_)
    refine r_iconst (pc := 314) (v := 0) dX6_readCommand_314 (by decide) ?_
    exact r_zretH dX6_readCommand_315 rfl h he
  refine r_sw h (fun g64 h => ?_) (fun g64 h => ?_)
  · refine r_tabIn (pc := 21) (tgt := 304) (v := 114) dX6_readCommand_21 g64 (by decide) (by decide) rfl (by decide) ?_
    refine r_aload_n (pc := 304) dX6_readCommand_304 rfl rfl ?_
    refine r_dup (pc := 305) dX6_readCommand_305 rfl ?_
    refine fX6_112 (pc := 306) dX6_readCommand_306 (gO5 hF) h (fun x65 h => ?_)
    refine r_iconst (pc := 309) (v := 1) dX6_readCommand_309 (by decide) ?_
    refine r_isub (pc := 310) dX6_readCommand_310 ?_
    refine fX6_112p (pc := 311) dX6_readCommand_311 (gO5 hF) h (fun m66 h => ?_)
    refine r_iconst (pc := 314) (v := 0) dX6_readCommand_314 (by decide) ?_
    exact r_zretH dX6_readCommand_315 rfl h he
  refine r_sw h (fun g67 h => ?_) (fun g67 h => ?_)
  · refine r_tabIn (pc := 21) (tgt := 195) (v := 115) dX6_readCommand_21 g67 (by decide) (by decide) rfl (by decide) ?_
    refine r_aload_n (pc := 195) dX6_readCommand_195 rfl rfl ?_
    refine r_iconst (pc := 196) (v := 0) dX6_readCommand_196 (by decide) ?_
    refine r_iconst (pc := 197) (v := 1) dX6_readCommand_197 (by decide) ?_
    refine r_iconst (pc := 198) (v := 0) dX6_readCommand_198 (by decide) ?_
    refine r_iconst (pc := 199) (v := 4) dX6_readCommand_199 (by decide) ?_
    obtain ⟨m68, x69, q70, h⟩ := gCl_some h
    refine r_callV (kd := 5) (pc := 200) [.int _, .int _, .int _, .int _] (tX6_figures _ _ _ hF _ _ _ _ _ _ q70) ⟨rfl, rfl⟩ cd_X6_figures wX6_118 nm_X6_figures rfl (by rw [hRm]; decide) rfl (Nat.le_of_ble_eq_true rfl) rfl (by decide) (gO5 hF) dX6_readCommand_200 ?_
    refine r_istore_n (pc := 203) dX6_readCommand_203 rfl (by rw [hnL]; decide) rfl ?_
    refine r_aload_n (pc := 204) dX6_readCommand_204 rfl rfl ?_
    refine r_iload_n (pc := 205) dX6_readCommand_205 rfl rfl ?_
    refine r_bipush (pc := 206) (v := 10) dX6_readCommand_206 (by decide) ?_
    refine r_iconst (pc := 208) (v := 0) dX6_readCommand_208 (by decide) ?_
    refine r_bipush (pc := 209) (v := 99) dX6_readCommand_209 (by decide) ?_
    obtain ⟨m71, x72, q73, h⟩ := gCl_some h
    refine r_callV (kd := 5) (pc := 211) [.int _, .int _, .int _, .int _] (tX6_figures _ _ _ hF _ _ _ _ _ _ q73) ⟨rfl, rfl⟩ cd_X6_figures wX6_118 nm_X6_figures rfl (by rw [hRm]; decide) rfl (Nat.le_of_ble_eq_true rfl) rfl (by decide) (gO5 hF) dX6_readCommand_211 ?_
    refine r_istore (pc := 214) dX6_readCommand_214 (by rw [hnL]; decide) rfl ?_
    refine r_iload (pc := 216) dX6_readCommand_216 rfl ?_
    refine r_iconst (pc := 218) (v := (-1)) dX6_readCommand_218 (by decide) ?_
    refine r_icmp_eq (pc := 219) (tgt := 260) dX6_readCommand_219 (by decide) h (fun h => ?_) (fun h => ?_)
    · refine r_iconst (pc := 260) (v := 0) dX6_readCommand_260 (by decide) ?_
      exact r_zretH dX6_readCommand_261 rfl h he
    · refine r_aload_n (pc := 222) dX6_readCommand_222 rfl rfl ?_
      refine r_iload_n (pc := 223) dX6_readCommand_223 rfl rfl ?_
      refine r_iload (pc := 224) dX6_readCommand_224 rfl ?_
      obtain ⟨m74, x75, q76, h⟩ := gCl_some h
      refine r_callS (pc := 226) [.int _, .int _] (tX6_isSetting _ _ _ hF _ _ _ _ q76) ⟨rfl, rfl⟩ cd_X6_isSetting wX6_169 nm_X6_isSetting rfl (by rw [hRm]; decide) rfl (Nat.le_of_ble_eq_true rfl) dX6_readCommand_226 ?_
      refine r_jnK h (fun (k79 : Int32 → gM → Option (gM × Int32)) => ∀ (x77 : Int32) (m78 : gM), k79 x77 m78 = some o → AW Y cX6_readCommand RX6 250 [none, none, none, none, none] [.int x77, .ref 5693] m78) (fun x77 m78 h => ?_) (fun k79 hJ80 h => ?_)
      · obtain ⟨m81, x82, q83, h⟩ := gCl_some h
        refine r_callV (kd := 5) (pc := 250) [.int _] (tX6_done _ _ _ hF _ _ _ q83) ⟨rfl, rfl⟩ cd_X6_done wX6_131 nm_X6_done rfl (by rw [hRm]; decide) rfl (Nat.le_of_ble_eq_true rfl) rfl (by decide) (gO5 hF) dX6_readCommand_250 ?_
        refine r_if_eq (pc := 253) (tgt := 260) dX6_readCommand_253 (by decide) h (fun h => ?_) (fun h => ?_)
        · refine r_iconst (pc := 260) (v := 0) dX6_readCommand_260 (by decide) ?_
          exact r_zretH dX6_readCommand_261 rfl h he
        · refine r_iconst (pc := 256) (v := 1) dX6_readCommand_256 (by decide) ?_
          refine r_goto (pc := 257) (tgt := 261) dX6_readCommand_257 (by decide) ?_
          exact r_zretH dX6_readCommand_261 rfl h he
      · refine r_if_eq (pc := 229) (tgt := 249) dX6_readCommand_229 (by decide) h (fun h => ?_) (fun h => ?_)
        · refine r_iconst (pc := 249) (v := 0) dX6_readCommand_249 (by decide) ?_
          exact r_mask [false, false, false, false, false] rfl (hJ80 _ _ h)
        · refine r_aload_n (pc := 232) dX6_readCommand_232 rfl rfl ?_
          refine r_bipush (pc := 233) (v := 11) dX6_readCommand_233 (by decide) ?_
          refine r_iload_n (pc := 235) dX6_readCommand_235 rfl rfl ?_
          refine r_iadd (pc := 236) dX6_readCommand_236 ?_
          refine r_iload (pc := 237) dX6_readCommand_237 rfl ?_
          obtain ⟨m84, x85, q86, h⟩ := gCl_some h
          refine r_callS (pc := 239) [.ref _, .int _, .int _] (tX6_put _ _ _ hF _ _ _ _ _ _ q86 h1) ⟨rfl, rfl⟩ cd_X6_put wX6_95 nm_X6_put rfl (by rw [hRm]; decide) rfl (Nat.le_of_ble_eq_true rfl) dX6_readCommand_239 ?_
          refine r_if_lt (pc := 242) (tgt := 249) dX6_readCommand_242 (by decide) h (fun h => ?_) (fun h => ?_)
          · refine r_iconst (pc := 249) (v := 0) dX6_readCommand_249 (by decide) ?_
            exact r_mask [false, false, false, false, false] rfl (hJ80 _ _ h)
          · refine r_iconst (pc := 245) (v := 1) dX6_readCommand_245 (by decide) ?_
            refine r_goto (pc := 246) (tgt := 250) dX6_readCommand_246 (by decide) ?_
            exact r_mask [false, false, false, false, false] rfl (hJ80 _ _ h)
  refine r_sw h (fun g87 h => ?_) (fun g87 h => ?_)
  · refine r_tabIn (pc := 21) (tgt := 304) (v := 116) dX6_readCommand_21 g87 (by decide) (by decide) rfl (by decide) ?_
    refine r_aload_n (pc := 304) dX6_readCommand_304 rfl rfl ?_
    refine r_dup (pc := 305) dX6_readCommand_305 rfl ?_
    refine fX6_112 (pc := 306) dX6_readCommand_306 (gO5 hF) h (fun x88 h => ?_)
    refine r_iconst (pc := 309) (v := 1) dX6_readCommand_309 (by decide) ?_
    refine r_isub (pc := 310) dX6_readCommand_310 ?_
    refine fX6_112p (pc := 311) dX6_readCommand_311 (gO5 hF) h (fun m89 h => ?_)
    refine r_iconst (pc := 314) (v := 0) dX6_readCommand_314 (by decide) ?_
    exact r_zretH dX6_readCommand_315 rfl h he
  refine r_sw h (fun g90 h => ?_) (fun g90 h => ?_)
  · refine r_tabIn (pc := 21) (tgt := 304) (v := 117) dX6_readCommand_21 g90 (by decide) (by decide) rfl (by decide) ?_
    refine r_aload_n (pc := 304) dX6_readCommand_304 rfl rfl ?_
    refine r_dup (pc := 305) dX6_readCommand_305 rfl ?_
    refine fX6_112 (pc := 306) dX6_readCommand_306 (gO5 hF) h (fun x91 h => ?_)
    refine r_iconst (pc := 309) (v := 1) dX6_readCommand_309 (by decide) ?_
    refine r_isub (pc := 310) dX6_readCommand_310 ?_
    refine fX6_112p (pc := 311) dX6_readCommand_311 (gO5 hF) h (fun m92 h => ?_)
    refine r_iconst (pc := 314) (v := 0) dX6_readCommand_314 (by decide) ?_
    exact r_zretH dX6_readCommand_315 rfl h he
  refine r_sw h (fun g93 h => ?_) (fun g93 h => ?_)
  · refine r_tabIn (pc := 21) (tgt := 148) (v := 118) dX6_readCommand_21 g93 (by decide) (by decide) rfl (by decide) ?_
    refine r_aload_n (pc := 148) dX6_readCommand_148 rfl rfl ?_
    refine r_iconst (pc := 149) (v := 0) dX6_readCommand_149 (by decide) ?_
    obtain ⟨m94, x95, q96, h⟩ := gCl_some h
    refine r_callV (kd := 5) (pc := 150) [.int _] (tX6_streetSign _ _ _ hF _ _ _ q96) ⟨rfl, rfl⟩ cd_X6_streetSign wX6_122 nm_X6_streetSign rfl (by rw [hRm]; decide) rfl (Nat.le_of_ble_eq_true rfl) rfl (by decide) (gO5 hF) dX6_readCommand_150 ?_
    refine r_istore_n (pc := 153) dX6_readCommand_153 rfl (by rw [hnL]; decide) rfl ?_
    refine r_aload_n (pc := 154) dX6_readCommand_154 rfl rfl ?_
    refine r_iload_n (pc := 155) dX6_readCommand_155 rfl rfl ?_
    obtain ⟨m97, x98, q99, h⟩ := gCl_some h
    refine r_callV (kd := 5) (pc := 156) [.int _] (tX6_streetSign _ _ _ hF _ _ _ q99) ⟨rfl, rfl⟩ cd_X6_streetSign wX6_122 nm_X6_streetSign rfl (by rw [hRm]; decide) rfl (Nat.le_of_ble_eq_true rfl) rfl (by decide) (gO5 hF) dX6_readCommand_156 ?_
    refine r_istore (pc := 159) dX6_readCommand_159 (by rw [hnL]; decide) rfl ?_
    refine r_iload (pc := 161) dX6_readCommand_161 rfl ?_
    refine r_iconst (pc := 163) (v := (-1)) dX6_readCommand_163 (by decide) ?_
    refine r_icmp_eq (pc := 164) (tgt := 193) dX6_readCommand_164 (by decide) h (fun h => ?_) (fun h => ?_)
    · refine r_iconst (pc := 193) (v := 0) dX6_readCommand_193 (by decide) ?_
      exact r_zretH dX6_readCommand_194 rfl h he
    · refine r_aload_n (pc := 167) dX6_readCommand_167 rfl rfl ?_
      refine r_aload_n (pc := 168) dX6_readCommand_168 rfl rfl ?_
      refine r_iload_n (pc := 169) dX6_readCommand_169 rfl rfl ?_
      refine r_iload (pc := 170) dX6_readCommand_170 rfl ?_
      obtain ⟨m100, x101, q102, h⟩ := gCl_some h
      refine r_callS (pc := 172) [.ref _, .int _, .int _] (tX6_swapOn _ _ _ hF _ _ _ _ _ _ q102 h1) ⟨rfl, rfl⟩ cd_X6_swapOn wX6_166 nm_X6_swapOn rfl (by rw [hRm]; decide) rfl (Nat.le_of_ble_eq_true rfl) dX6_readCommand_172 ?_
      refine r_jn1 h (fun x103 => AW Y cX6_readCommand RX6 183 [none, none, none, none, none] [.int x103, .ref 5693] m100) (fun x103 h => ?_) (fun hJ104 => ?_)
      · obtain ⟨m106, x107, q108, h⟩ := gCl_some h
        refine r_callV (kd := 5) (pc := 183) [.int _] (tX6_done _ _ _ hF _ _ _ q108) ⟨rfl, rfl⟩ cd_X6_done wX6_131 nm_X6_done rfl (by rw [hRm]; decide) rfl (Nat.le_of_ble_eq_true rfl) rfl (by decide) (gO5 hF) dX6_readCommand_183 ?_
        refine r_if_eq (pc := 186) (tgt := 193) dX6_readCommand_186 (by decide) h (fun h => ?_) (fun h => ?_)
        · refine r_iconst (pc := 193) (v := 0) dX6_readCommand_193 (by decide) ?_
          exact r_zretH dX6_readCommand_194 rfl h he
        · refine r_iconst (pc := 189) (v := 1) dX6_readCommand_189 (by decide) ?_
          refine r_goto (pc := 190) (tgt := 194) dX6_readCommand_190 (by decide) ?_
          exact r_zretH dX6_readCommand_194 rfl h he
      · refine r_ifC_lt (pc := 175) (tgt := 182) dX6_readCommand_175 (by decide) (fun g105 => ?_) (fun g105 => ?_)
        · refine r_iconst (pc := 182) (v := 0) dX6_readCommand_182 (by decide) ?_
          exact r_mask [false, false, false, false, false] rfl (hJ104 _ (by rw [if_pos g105]))
        · refine r_iconst (pc := 178) (v := 1) dX6_readCommand_178 (by decide) ?_
          refine r_goto (pc := 179) (tgt := 183) dX6_readCommand_179 (by decide) ?_
          exact r_mask [false, false, false, false, false] rfl (hJ104 _ (by rw [if_neg g105]))
  refine r_sw h (fun g109 h => ?_) (fun g109 h => ?_)
  · refine r_tabIn (pc := 21) (tgt := 304) (v := 119) dX6_readCommand_21 g109 (by decide) (by decide) rfl (by decide) ?_
    refine r_aload_n (pc := 304) dX6_readCommand_304 rfl rfl ?_
    refine r_dup (pc := 305) dX6_readCommand_305 rfl ?_
    refine fX6_112 (pc := 306) dX6_readCommand_306 (gO5 hF) h (fun x110 h => ?_)
    refine r_iconst (pc := 309) (v := 1) dX6_readCommand_309 (by decide) ?_
    refine r_isub (pc := 310) dX6_readCommand_310 ?_
    refine fX6_112p (pc := 311) dX6_readCommand_311 (gO5 hF) h (fun m111 h => ?_)
    refine r_iconst (pc := 314) (v := 0) dX6_readCommand_314 (by decide) ?_
    exact r_zretH dX6_readCommand_315 rfl h he
  refine r_sw h (fun g112 h => ?_) (fun g112 h => ?_)
  · refine r_tabIn (pc := 21) (tgt := 142) (v := 120) dX6_readCommand_21 g112 (by decide) (by decide) rfl (by decide) ?_
    refine r_aload_n (pc := 142) dX6_readCommand_142 rfl rfl ?_
    refine r_aload_n (pc := 143) dX6_readCommand_143 rfl rfl ?_
    obtain ⟨m113, x114, q115, h⟩ := gCl_some h
    refine r_callV (kd := 5) (pc := 144) [.ref _] (tX6_readClose _ _ _ hF _ _ _ _ q115 h1) ⟨rfl, rfl⟩ cd_X6_readClose wX6_163 nm_X6_readClose rfl (by rw [hRm]; decide) rfl (Nat.le_of_ble_eq_true rfl) rfl (by decide) (gO5 hF) dX6_readCommand_144 ?_
    exact r_zretH dX6_readCommand_147 rfl h he
  have g6n := gNe g6 (z := 99) (by decide)
  have g10n := gNe g10 (z := 100) (by decide)
  have g23n := gNe g23 (z := 101) (by decide)
  have g26n := gNe g26 (z := 102) (by decide)
  have g29n := gNe g29 (z := 103) (by decide)
  have g32n := gNe g32 (z := 104) (by decide)
  have g36n := gNe g36 (z := 105) (by decide)
  have g39n := gNe g39 (z := 106) (by decide)
  have g42n := gNe g42 (z := 107) (by decide)
  have g45n := gNe g45 (z := 108) (by decide)
  have g48n := gNe g48 (z := 109) (by decide)
  have g51n := gNe g51 (z := 110) (by decide)
  have g55n := gNe g55 (z := 111) (by decide)
  have g58n := gNe g58 (z := 112) (by decide)
  have g61n := gNe g61 (z := 113) (by decide)
  have g64n := gNe g64 (z := 114) (by decide)
  have g67n := gNe g67 (z := 115) (by decide)
  have g87n := gNe g87 (z := 116) (by decide)
  have g90n := gNe g90 (z := 117) (by decide)
  have g93n := gNe g93 (z := 118) (by decide)
  have g109n := gNe g109 (z := 119) (by decide)
  have g112n := gNe g112 (z := 120) (by decide)
  refine r_tabOut (pc := 21) (tgt := 304) dX6_readCommand_21 (by omega) (by decide) ?_
  refine r_aload_n (pc := 304) dX6_readCommand_304 rfl rfl ?_
  refine r_dup (pc := 305) dX6_readCommand_305 rfl ?_
  refine fX6_112 (pc := 306) dX6_readCommand_306 (gO5 hF) h (fun x116 h => ?_)
  refine r_iconst (pc := 309) (v := 1) dX6_readCommand_309 (by decide) ?_
  refine r_isub (pc := 310) dX6_readCommand_310 ?_
  refine fX6_112p (pc := 311) dX6_readCommand_311 (gO5 hF) h (fun m117 h => ?_)
  refine r_iconst (pc := 314) (v := 0) dX6_readCommand_314 (by decide) ?_
  exact r_zretH dX6_readCommand_315 rfl h he
set_option maxHeartbeats 4000000 in
set_option maxRecDepth 100000 in
theorem tX6_readText (l : Launch) (G : gX) (u : gU) (hF : gFull u) (a1 a1n : Nat) (m : gM) (o : gM × Int32) (h : fX6_readText a1 a1n m = some o) (h1 : gIn u a1 7 a1n) : gMet l G u yX6_readText (.code yX6_readText cX6_readText 2 (some .int)) rmX6_readText [.ref 5693, .ref a1] m o.1 (some (.int o.2)) := by
  refine gMet_of (own := RX6) (k := 0) (by decide) rfl ⟨rfl, rfl⟩ (Nat.le_of_ble_eq_true rfl) [some (.ref 5693), some (.ref a1)] rfl (fun Y hG hu hnL hLn hRm he => ?_)
  subst hG hu hLn
  unfold fX6_readText at h
  refine r_aload_n (pc := 0) dX6_readText_0 rfl rfl ?_
  obtain ⟨m1, q3, h⟩ := gCv_some h
  refine r_callS (pc := 1) [.ref _] (tX6_clear _ _ _ hF _ _ _ _ q3 h1) ⟨rfl, rfl⟩ cd_X6_clear wX6_29 nm_X6_clear rfl (by rw [hRm]; decide) rfl (Nat.le_of_ble_eq_true rfl) dX6_readText_1 ?_
  refine r_aload_n (pc := 4) dX6_readText_4 rfl rfl ?_
  refine r_iconst (pc := 5) (v := 0) dX6_readText_5 (by decide) ?_
  refine fX6_115p (pc := 6) dX6_readText_6 (gO5 hF) h (fun m4 h => ?_)
  refine r_aload_n (pc := 9) dX6_readText_9 rfl rfl ?_
  refine r_iconst (pc := 10) (v := 0) dX6_readText_10 (by decide) ?_
  refine fX6_112p (pc := 11) dX6_readText_11 (gO5 hF) h (fun m5 h => ?_)
  refine r_aload_n (pc := 14) dX6_readText_14 rfl rfl ?_
  refine fX6_105 (pc := 15) dX6_readText_15 (gO5 hF) h (fun x6 h => ?_)
  refine r_if_eq (pc := 18) (tgt := 32) dX6_readText_18 (by decide) h (fun h => ?_) (fun h => ?_)
  · refine r_iconst (pc := 32) (v := 0) dX6_readText_32 (by decide) ?_
    exact r_iretH dX6_readText_33 h he
  · refine r_aload_n (pc := 21) dX6_readText_21 rfl rfl ?_
    refine fX6_7 (pc := 22) hF dX6_readText_22 (fun b7 => ?_)
    refine r_iconst (pc := 25) (v := 0) dX6_readText_25 (by decide) ?_
    refine r_iald (pc := 26) dX6_readText_26 b7 h (fun x8 h => ?_)
    refine r_bipush (pc := 27) (v := 66) dX6_readText_27 (by decide) ?_
    refine r_icmp_eq (pc := 29) (tgt := 34) dX6_readText_29 (by decide) h (fun h => ?_) (fun h => ?_)
    · refine r_aload_n (pc := 34) dX6_readText_34 rfl rfl ?_
      refine r_iconst (pc := 35) (v := 1) dX6_readText_35 (by decide) ?_
      refine fX6_112p (pc := 36) dX6_readText_36 (gO5 hF) h (fun m9 h => ?_)
      have L18 : ∀ (n16 : Nat)  (m19 : gM), fX6_readText_L39 a1 a1n n16  m19 = some o → AW Y cX6_readText RX6 39 [some (.ref 5693), some (.ref a1)] [] m19 := by
        intro n16
        induction n16 with
        | zero =>
          intro  m19 h
          exact absurd h (by simp [fX6_readText_L39])
        | succ n16 ih17 =>
          intro  m19 h
          rw [fX6_readText_L39] at h
          refine r_aload_n (pc := 39) dX6_readText_39 rfl rfl ?_
          refine fX6_112 (pc := 40) dX6_readText_40 (gO5 hF) h (fun x20 h => ?_)
          refine r_aload_n (pc := 43) dX6_readText_43 rfl rfl ?_
          refine fX6_105 (pc := 44) dX6_readText_44 (gO5 hF) h (fun x21 h => ?_)
          refine r_icmp_ge (pc := 47) (tgt := 63) dX6_readText_47 (by decide) h (fun h => ?_) (fun h => ?_)
          · refine r_iconst (pc := 63) (v := (-1)) dX6_readText_63 (by decide) ?_
            exact r_iretH dX6_readText_64 h he
          · refine r_aload_n (pc := 50) dX6_readText_50 rfl rfl ?_
            refine r_aload_n (pc := 51) dX6_readText_51 rfl rfl ?_
            obtain ⟨m22, x23, q24, h⟩ := gCl_some h
            refine r_callV (kd := 5) (pc := 52) [.ref _] (tX6_readCommand _ _ _ hF _ _ _ _ q24 h1) ⟨rfl, rfl⟩ cd_X6_readCommand wX6_176 nm_X6_readCommand rfl (by rw [hRm]; decide) rfl (Nat.le_of_ble_eq_true rfl) rfl (by decide) (gO5 hF) dX6_readText_52 ?_
            refine r_if_ne (pc := 55) (tgt := 39) dX6_readText_55 (by decide) h (fun h => ?_) (fun h => ?_)
            · exact r_mask [true, true] rfl (ih17  _ h)
            · refine r_aload_n (pc := 58) dX6_readText_58 rfl rfl ?_
              refine fX6_112 (pc := 59) dX6_readText_59 (gO5 hF) h (fun x25 h => ?_)
              exact r_iretH dX6_readText_62 h he
      exact r_mask [true, true] rfl (L18 _  _ h)
    · refine r_iconst (pc := 32) (v := 0) dX6_readText_32 (by decide) ?_
      exact r_iretH dX6_readText_33 h he
set_option maxHeartbeats 4000000 in
set_option maxRecDepth 100000 in
theorem tX6_errorPosition (l : Launch) (G : gX) (u : gU) (hF : gFull u)  (m : gM) (o : gM × Int32) (h : fX6_errorPosition  m = some o)  : gMet l G u yX6_errorPosition (.code yX6_errorPosition cX6_errorPosition 1 (some .int)) rmX6_errorPosition [.ref 5693] m o.1 (some (.int o.2)) := by
  refine gMet_of (own := RX6) (k := 0) (by decide) rfl ⟨rfl, rfl⟩ (Nat.le_of_ble_eq_true rfl) [some (.ref 5693)] rfl (fun Y hG hu hnL hLn hRm he => ?_)
  subst hG hu hLn
  unfold fX6_errorPosition at h
  refine r_aload_n (pc := 0) dX6_errorPosition_0 rfl rfl ?_
  refine r_iconst (pc := 1) (v := 0) dX6_errorPosition_1 (by decide) ?_
  refine fX6_33p (pc := 2) dX6_errorPosition_2 (gO5 hF) h (fun m1 h => ?_)
  refine r_aload_n (pc := 5) dX6_errorPosition_5 rfl rfl ?_
  refine r_aload_n (pc := 6) dX6_errorPosition_6 rfl rfl ?_
  refine fX6_16 (pc := 7) hF dX6_errorPosition_7 (fun b2 => ?_)
  obtain ⟨m3, x4, q5, h⟩ := gCl_some h
  refine r_callV (kd := 5) (pc := 10) [.ref _] (tX6_readText _ _ _ hF _ _ _ _ q5 b2) ⟨rfl, rfl⟩ cd_X6_readText wX6_179 nm_X6_readText rfl (by rw [hRm]; decide) rfl (Nat.le_of_ble_eq_true rfl) rfl (by decide) (gO5 hF) dX6_errorPosition_10 ?_
  exact r_iretH dX6_errorPosition_13 h he
set_option maxHeartbeats 4000000 in
set_option maxRecDepth 100000 in
theorem tX6_load (l : Launch) (G : gX) (u : gU) (hF : gFull u)  (m : gM) (o : gM × Int32) (h : fX6_load  m = some o)  : gMet l G u yX6_load (.code yX6_load cX6_load 1 (some .int)) rmX6_load [.ref 5693] m o.1 (some (.int o.2)) := by
  refine gMet_of (own := RX6) (k := 0) (by decide) rfl ⟨rfl, rfl⟩ (Nat.le_of_ble_eq_true rfl) [some (.ref 5693)] rfl (fun Y hG hu hnL hLn hRm he => ?_)
  subst hG hu hLn
  unfold fX6_load at h
  refine r_aload_n (pc := 0) dX6_load_0 rfl rfl ?_
  refine r_aload_n (pc := 1) dX6_load_1 rfl rfl ?_
  refine r_aload_n (pc := 2) dX6_load_2 rfl rfl ?_
  refine fX6_16 (pc := 3) hF dX6_load_3 (fun b1 => ?_)
  obtain ⟨m2, x3, q4, h⟩ := gCl_some h
  refine r_callV (kd := 5) (pc := 6) [.ref _] (tX6_readText _ _ _ hF _ _ _ _ q4 b1) ⟨rfl, rfl⟩ cd_X6_readText wX6_179 nm_X6_readText rfl (by rw [hRm]; decide) rfl (Nat.le_of_ble_eq_true rfl) rfl (by decide) (gO5 hF) dX6_load_6 ?_
  refine r_iconst (pc := 9) (v := (-1)) dX6_load_9 (by decide) ?_
  refine r_jn1 h (fun x5 => AW Y cX6_load RX6 18 [some (.ref 5693)] [.int x5, .ref 5693] m2) (fun x5 h => ?_) (fun hJ6 => ?_)
  · obtain ⟨m8, x9, q10, h⟩ := gCl_some h
    refine r_callV (kd := 5) (pc := 18) [.int _] (tX6_refused _ _ _ hF _ _ _ q10) ⟨rfl, rfl⟩ cd_X6_refused wX6_108 nm_X6_refused rfl (by rw [hRm]; decide) rfl (Nat.le_of_ble_eq_true rfl) rfl (by decide) (gO5 hF) dX6_load_18 ?_
    refine r_if_eq (pc := 21) (tgt := 26) dX6_load_21 (by decide) h (fun h => ?_) (fun h => ?_)
    · refine r_aload_n (pc := 26) dX6_load_26 rfl rfl ?_
      refine fX6_16 (pc := 27) hF dX6_load_27 (fun b11 => ?_)
      refine r_iconst (pc := 30) (v := 0) dX6_load_30 (by decide) ?_
      refine r_aload_n (pc := 31) dX6_load_31 rfl rfl ?_
      refine fX6_13 (pc := 32) hF dX6_load_32 (fun b12 => ?_)
      refine r_iconst (pc := 35) (v := 0) dX6_load_35 (by decide) ?_
      obtain ⟨m13, q15, h⟩ := gCv_some h
      refine r_callS (pc := 36) [.ref _, .int _, .ref _, .int _] (tX6_copyState _ _ _ hF _ _ _ _ _ _ _ _ q15 b11 b12) ⟨rfl, rfl⟩ cd_X6_copyState wX6_183 nm_X6_copyState rfl (by rw [hRm]; decide) rfl (Nat.le_of_ble_eq_true rfl) dX6_load_36 ?_
      refine r_aload_n (pc := 39) dX6_load_39 rfl rfl ?_
      refine r_iconst (pc := 40) (v := 0) dX6_load_40 (by decide) ?_
      refine fX6_187p (pc := 41) dX6_load_41 (gO5 hF) h (fun m16 h => ?_)
      refine r_aload_n (pc := 44) dX6_load_44 rfl rfl ?_
      refine fX6_25 (pc := 45) hF dX6_load_45 (fun b17 => ?_)
      refine r_iconst (pc := 48) (v := 0) dX6_load_48 (by decide) ?_
      refine r_iconst (pc := 49) (v := 0) dX6_load_49 (by decide) ?_
      refine r_zast (pc := 50) dX6_load_50 b17 h (fun m18 h => ?_)
      refine r_aload_n (pc := 51) dX6_load_51 rfl rfl ?_
      refine fX6_25 (pc := 52) hF dX6_load_52 (fun b19 => ?_)
      refine r_iconst (pc := 55) (v := 1) dX6_load_55 (by decide) ?_
      refine r_iconst (pc := 56) (v := 0) dX6_load_56 (by decide) ?_
      refine r_zast (pc := 57) dX6_load_57 b19 h (fun m20 h => ?_)
      refine r_aload_n (pc := 58) dX6_load_58 rfl rfl ?_
      refine fX6_115 (pc := 59) dX6_load_59 (gO5 hF) h (fun x21 h => ?_)
      exact r_iretH dX6_load_62 h he
    · refine r_iconst (pc := 24) (v := 0) dX6_load_24 (by decide) ?_
      exact r_iretH dX6_load_25 h he
  · refine r_icmpC_ne (pc := 10) (tgt := 17) dX6_load_10 (by decide) (fun g7 => ?_) (fun g7 => ?_)
    · refine r_iconst (pc := 17) (v := 1) dX6_load_17 (by decide) ?_
      exact r_mask [true] rfl (hJ6 _ (by rw [if_neg g7]))
    · refine r_iconst (pc := 13) (v := 0) dX6_load_13 (by decide) ?_
      refine r_goto (pc := 14) (tgt := 18) dX6_load_14 (by decide) ?_
      exact r_mask [true] rfl (hJ6 _ (by rw [if_pos g7]))
set_option maxHeartbeats 4000000 in
set_option maxRecDepth 100000 in
theorem tX6_about (l : Launch) (G : gX) (u : gU) (hF : gFull u) (p1 : Int32) (m : gM) (o : gM × Int32) (h : fX6_about p1 m = some o)  : gMet l G u yX6_about (.code yX6_about cX6_about 2 (some .int)) rmX6_about [.ref 5693, .int p1] m o.1 (some (.int o.2)) := by
  refine gMet_of (own := RX6) (k := 0) (by decide) rfl ⟨rfl, rfl⟩ (Nat.le_of_ble_eq_true rfl) [some (.ref 5693), some (.int p1)] rfl (fun Y hG hu hnL hLn hRm he => ?_)
  subst hG hu hLn
  unfold fX6_about at h
  refine r_aload_n (pc := 0) dX6_about_0 rfl rfl ?_
  refine r_iload_n (pc := 1) dX6_about_1 rfl rfl ?_
  refine r_i2l (pc := 2) dX6_about_2 ?_
  refine r_lconst (pc := 3) (v := 0) dX6_about_3 (by decide) ?_
  refine r_ldc2 (pc := 4) (v := 12) dX6_about_4 cX6_190 ?_
  obtain ⟨m1, x2, q3, h⟩ := gCl_some h
  refine r_callS (pc := 7) [.long _, .long _, .long _] (tX6_in _ _ _ hF _ _ _ _ _ q3) ⟨rfl, rfl⟩ cd_X6_in wX6_37 nm_X6_in rfl (by rw [hRm]; decide) rfl (Nat.le_of_ble_eq_true rfl) dX6_about_7 ?_
  refine r_jn1 h (fun x4 => AW Y cX6_about RX6 18 [some (.ref 5693), some (.int p1)] [.int x4, .ref 5693] m1) (fun x4 h => ?_) (fun hJ5 => ?_)
  · obtain ⟨m7, x8, q9, h⟩ := gCl_some h
    refine r_callV (kd := 5) (pc := 18) [.int _] (tX6_refused _ _ _ hF _ _ _ q9) ⟨rfl, rfl⟩ cd_X6_refused wX6_108 nm_X6_refused rfl (by rw [hRm]; decide) rfl (Nat.le_of_ble_eq_true rfl) rfl (by decide) (gO5 hF) dX6_about_18 ?_
    refine r_if_eq (pc := 21) (tgt := 26) dX6_about_21 (by decide) h (fun h => ?_) (fun h => ?_)
    · refine r_iload_n (pc := 26) dX6_about_26 rfl rfl ?_
      refine r_sw h (fun g10 h => ?_) (fun g10 h => ?_)
      · refine r_tabIn (pc := 27) (tgt := 68) (v := 6) dX6_about_27 g10 (by decide) (by decide) rfl (by decide) ?_
        refine r_aload_n (pc := 68) dX6_about_68 rfl rfl ?_
        refine fX6_13 (pc := 69) hF dX6_about_69 (fun b11 => ?_)
        obtain ⟨m12, x13, q14, h⟩ := gCl_some h
        refine r_callS (pc := 72) [.ref _] (tX6_credits _ _ _ hF _ _ _ _ q14 b11) ⟨rfl, rfl⟩ cd_X6_credits wX6_192 nm_X6_credits rfl (by rw [hRm]; decide) rfl (Nat.le_of_ble_eq_true rfl) dX6_about_72 ?_
        exact r_iretH dX6_about_75 h he
      refine r_sw h (fun g15 h => ?_) (fun g15 h => ?_)
      · refine r_tabIn (pc := 27) (tgt := 90) (v := 7) dX6_about_27 g15 (by decide) (by decide) rfl (by decide) ?_
        refine r_aload_n (pc := 90) dX6_about_90 rfl rfl ?_
        refine fX6_13 (pc := 91) hF dX6_about_91 (fun b16 => ?_)
        refine r_iload_n (pc := 94) dX6_about_94 rfl rfl ?_
        refine r_iconst (pc := 95) (v := 1) dX6_about_95 (by decide) ?_
        refine r_isub (pc := 96) dX6_about_96 ?_
        refine r_iald (pc := 97) dX6_about_97 b16 h (fun x17 h => ?_)
        exact r_iretH dX6_about_98 h he
      refine r_sw h (fun g18 h => ?_) (fun g18 h => ?_)
      · refine r_tabIn (pc := 27) (tgt := 90) (v := 8) dX6_about_27 g18 (by decide) (by decide) rfl (by decide) ?_
        refine r_aload_n (pc := 90) dX6_about_90 rfl rfl ?_
        refine fX6_13 (pc := 91) hF dX6_about_91 (fun b19 => ?_)
        refine r_iload_n (pc := 94) dX6_about_94 rfl rfl ?_
        refine r_iconst (pc := 95) (v := 1) dX6_about_95 (by decide) ?_
        refine r_isub (pc := 96) dX6_about_96 ?_
        refine r_iald (pc := 97) dX6_about_97 b19 h (fun x20 h => ?_)
        exact r_iretH dX6_about_98 h he
      refine r_sw h (fun g21 h => ?_) (fun g21 h => ?_)
      · refine r_tabIn (pc := 27) (tgt := 90) (v := 9) dX6_about_27 g21 (by decide) (by decide) rfl (by decide) ?_
        refine r_aload_n (pc := 90) dX6_about_90 rfl rfl ?_
        refine fX6_13 (pc := 91) hF dX6_about_91 (fun b22 => ?_)
        refine r_iload_n (pc := 94) dX6_about_94 rfl rfl ?_
        refine r_iconst (pc := 95) (v := 1) dX6_about_95 (by decide) ?_
        refine r_isub (pc := 96) dX6_about_96 ?_
        refine r_iald (pc := 97) dX6_about_97 b22 h (fun x23 h => ?_)
        exact r_iretH dX6_about_98 h he
      refine r_sw h (fun g24 h => ?_) (fun g24 h => ?_)
      · refine r_tabIn (pc := 27) (tgt := 90) (v := 10) dX6_about_27 g24 (by decide) (by decide) rfl (by decide) ?_
        refine r_aload_n (pc := 90) dX6_about_90 rfl rfl ?_
        refine fX6_13 (pc := 91) hF dX6_about_91 (fun b25 => ?_)
        refine r_iload_n (pc := 94) dX6_about_94 rfl rfl ?_
        refine r_iconst (pc := 95) (v := 1) dX6_about_95 (by decide) ?_
        refine r_isub (pc := 96) dX6_about_96 ?_
        refine r_iald (pc := 97) dX6_about_97 b25 h (fun x26 h => ?_)
        exact r_iretH dX6_about_98 h he
      refine r_sw h (fun g27 h => ?_) (fun g27 h => ?_)
      · refine r_tabIn (pc := 27) (tgt := 90) (v := 11) dX6_about_27 g27 (by decide) (by decide) rfl (by decide) ?_
        refine r_aload_n (pc := 90) dX6_about_90 rfl rfl ?_
        refine fX6_13 (pc := 91) hF dX6_about_91 (fun b28 => ?_)
        refine r_iload_n (pc := 94) dX6_about_94 rfl rfl ?_
        refine r_iconst (pc := 95) (v := 1) dX6_about_95 (by decide) ?_
        refine r_isub (pc := 96) dX6_about_96 ?_
        refine r_iald (pc := 97) dX6_about_97 b28 h (fun x29 h => ?_)
        exact r_iretH dX6_about_98 h he
      refine r_sw h (fun g30 h => ?_) (fun g30 h => ?_)
      · refine r_tabIn (pc := 27) (tgt := 76) (v := 12) dX6_about_27 g30 (by decide) (by decide) rfl (by decide) ?_
        refine r_aload_n (pc := 76) dX6_about_76 rfl rfl ?_
        refine fX6_13 (pc := 77) hF dX6_about_77 (fun b31 => ?_)
        refine r_aload_n (pc := 80) dX6_about_80 rfl rfl ?_
        refine fX6_13 (pc := 81) hF dX6_about_81 (fun b32 => ?_)
        refine r_iconst (pc := 84) (v := 1) dX6_about_84 (by decide) ?_
        refine r_iald (pc := 85) dX6_about_85 b32 h (fun x33 h => ?_)
        obtain ⟨m34, x35, q36, h⟩ := gCl_some h
        refine r_callS (pc := 86) [.ref _, .int _] (tX6_allDue _ _ _ hF _ _ _ _ _ q36 b31) ⟨rfl, rfl⟩ cd_X6_allDue wX6_64 nm_X6_allDue rfl (by rw [hRm]; decide) rfl (Nat.le_of_ble_eq_true rfl) dX6_about_86 ?_
        exact r_iretH dX6_about_89 h he
      have g10n := gNe g10 (z := 6) (by decide)
      have g15n := gNe g15 (z := 7) (by decide)
      have g18n := gNe g18 (z := 8) (by decide)
      have g21n := gNe g21 (z := 9) (by decide)
      have g24n := gNe g24 (z := 10) (by decide)
      have g27n := gNe g27 (z := 11) (by decide)
      have g30n := gNe g30 (z := 12) (by decide)
      refine r_tabOut (pc := 27) (tgt := 99) dX6_about_27 (by omega) (by decide) ?_
      refine r_aload_n (pc := 99) dX6_about_99 rfl rfl ?_
      refine fX6_13 (pc := 100) hF dX6_about_100 (fun b37 => ?_)
      refine r_iload_n (pc := 103) dX6_about_103 rfl rfl ?_
      refine r_iald (pc := 104) dX6_about_104 b37 h (fun x38 h => ?_)
      exact r_iretH dX6_about_105 h he
    · refine r_iconst (pc := 24) (v := 0) dX6_about_24 (by decide) ?_
      exact r_iretH dX6_about_25 h he
  · refine r_ifC_eq (pc := 10) (tgt := 17) dX6_about_10 (by decide) (fun g6 => ?_) (fun g6 => ?_)
    · refine r_iconst (pc := 17) (v := 1) dX6_about_17 (by decide) ?_
      exact r_mask [true, true] rfl (hJ5 _ (by rw [if_pos g6]))
    · refine r_iconst (pc := 13) (v := 0) dX6_about_13 (by decide) ?_
      refine r_goto (pc := 14) (tgt := 18) dX6_about_14 (by decide) ?_
      exact r_mask [true, true] rfl (hJ5 _ (by rw [if_neg g6]))
set_option maxHeartbeats 4000000 in
set_option maxRecDepth 100000 in
theorem tX6_nextDue (l : Launch) (G : gX) (u : gU) (hF : gFull u) (a1 a1n : Nat) (p2 : Int32) (m : gM) (o : gM × Int32) (h : fX6_nextDue a1 a1n p2 m = some o) (h1 : gIn u a1 7 a1n) : gMet l G u yX6_nextDue (.code yX6_nextDue cX6_nextDue 3 (some .int)) rmX6_nextDue [.ref a1, .int p2] m o.1 (some (.int o.2)) := by
  refine gMet_of (own := RX6) (k := 1) (by decide) rfl ⟨rfl, rfl⟩ (Nat.le_of_ble_eq_true rfl) [some (.ref a1), some (.int p2), none] rfl (fun Y hG hu hnL hLn hRm he => ?_)
  subst hG hu hLn
  unfold fX6_nextDue at h
  refine r_aload_n (pc := 0) dX6_nextDue_0 rfl rfl ?_
  refine r_iconst (pc := 1) (v := 1) dX6_nextDue_1 (by decide) ?_
  refine r_iald (pc := 2) dX6_nextDue_2 h1 h (fun x1 h => ?_)
  refine r_istore_n (pc := 3) dX6_nextDue_3 rfl (by rw [hnL]; decide) rfl ?_
  have L9 : ∀ (n7 : Nat) (v10 : Int32) (m11 : gM), fX6_nextDue_L4 a1 a1n p2 n7 v10 m11 = some o → AW Y cX6_nextDue RX6 4 [some (.ref a1), some (.int p2), some (.int v10)] [] m11 := by
    intro n7
    induction n7 with
    | zero =>
      intro v10 m11 h
      exact absurd h (by simp [fX6_nextDue_L4])
    | succ n7 ih8 =>
      intro v10 m11 h
      rw [fX6_nextDue_L4] at h
      refine r_iload_n (pc := 4) dX6_nextDue_4 rfl rfl ?_
      refine r_aload_n (pc := 5) dX6_nextDue_5 rfl rfl ?_
      refine r_iconst (pc := 6) (v := 1) dX6_nextDue_6 (by decide) ?_
      refine r_iald (pc := 7) dX6_nextDue_7 h1 h (fun x12 h => ?_)
      refine r_sipush (pc := 8) (v := 200) dX6_nextDue_8 (by decide) ?_
      refine r_iadd (pc := 11) dX6_nextDue_11 ?_
      refine r_icmp_gt (pc := 12) (tgt := 32) dX6_nextDue_12 (by decide) h (fun h => ?_) (fun h => ?_)
      · refine r_iconst (pc := 32) (v := (-1)) dX6_nextDue_32 (by decide) ?_
        exact r_iretH dX6_nextDue_33 h he
      · refine r_aload_n (pc := 15) dX6_nextDue_15 rfl rfl ?_
        refine r_iload_n (pc := 16) dX6_nextDue_16 rfl rfl ?_
        refine r_iload_n (pc := 17) dX6_nextDue_17 rfl rfl ?_
        obtain ⟨m13, x14, q15, h⟩ := gCl_some h
        refine r_callS (pc := 18) [.ref _, .int _, .int _] (tX6_dueOn _ _ _ hF _ _ _ _ _ _ q15 h1) ⟨rfl, rfl⟩ cd_X6_dueOn wX6_61 nm_X6_dueOn rfl (by rw [hRm]; decide) rfl (Nat.le_of_ble_eq_true rfl) dX6_nextDue_18 ?_
        refine r_if_le (pc := 21) (tgt := 26) dX6_nextDue_21 (by decide) h (fun h => ?_) (fun h => ?_)
        · refine r_iinc (pc := 26) (d := 1) dX6_nextDue_26 rfl (by decide) (by rw [hnL]; decide) h (fun x16 h => ?_)
          refine r_goto (pc := 29) (tgt := 4) dX6_nextDue_29 (by decide) ?_
          exact r_mask [true, true, true] rfl (ih8 _ _ h)
        · refine r_iload_n (pc := 24) dX6_nextDue_24 rfl rfl ?_
          exact r_iretH dX6_nextDue_25 h he
  exact r_mask [true, true, true] rfl (L9 _ _ _ h)
set_option maxHeartbeats 4000000 in
set_option maxRecDepth 100000 in
theorem tX6_customerOf (l : Launch) (G : gX) (u : gU) (hF : gFull u) (p1 : Int32) (p2 : Int32) (m : gM) (o : gM × Int32) (h : fX6_customerOf p1 p2 m = some o)  : gMet l G u yX6_customerOf (.code yX6_customerOf cX6_customerOf 5 (some .int)) rmX6_customerOf [.ref 5693, .int p1, .int p2] m o.1 (some (.int o.2)) := by
  refine gMet_of (own := RX6) (k := 2) (by decide) rfl ⟨rfl, rfl⟩ (Nat.le_of_ble_eq_true rfl) [some (.ref 5693), some (.int p1), some (.int p2), none, none] rfl (fun Y hG hu hnL hLn hRm he => ?_)
  subst hG hu hLn
  unfold fX6_customerOf at h
  refine r_aload_n (pc := 0) dX6_customerOf_0 rfl rfl ?_
  refine r_aload_n (pc := 1) dX6_customerOf_1 rfl rfl ?_
  refine fX6_13 (pc := 2) hF dX6_customerOf_2 (fun b1 => ?_)
  refine r_iload_n (pc := 5) dX6_customerOf_5 rfl rfl ?_
  obtain ⟨m2, x3, q4, h⟩ := gCl_some h
  refine r_callS (pc := 6) [.ref _, .int _] (tX6_isCustomer _ _ _ hF _ _ _ _ _ q4 b1) ⟨rfl, rfl⟩ cd_X6_isCustomer wX6_139 nm_X6_isCustomer rfl (by rw [hRm]; decide) rfl (Nat.le_of_ble_eq_true rfl) dX6_customerOf_6 ?_
  refine r_jnK h (fun (k7 : Int32 → gM → Option (gM × Int32)) => ∀ (x5 : Int32) (m6 : gM), k7 x5 m6 = some o → AW Y cX6_customerOf RX6 33 [some (.ref 5693), some (.int p1), some (.int p2), none, none] [.int x5, .ref 5693] m6) (fun x5 m6 h => ?_) (fun k7 hJ8 h => ?_)
  · obtain ⟨m9, x10, q11, h⟩ := gCl_some h
    refine r_callV (kd := 5) (pc := 33) [.int _] (tX6_refused _ _ _ hF _ _ _ q11) ⟨rfl, rfl⟩ cd_X6_refused wX6_108 nm_X6_refused rfl (by rw [hRm]; decide) rfl (Nat.le_of_ble_eq_true rfl) rfl (by decide) (gO5 hF) dX6_customerOf_33 ?_
    refine r_if_eq (pc := 36) (tgt := 41) dX6_customerOf_36 (by decide) h (fun h => ?_) (fun h => ?_)
    · refine r_iconst (pc := 41) (v := 0) dX6_customerOf_41 (by decide) ?_
      refine r_istore_n (pc := 42) dX6_customerOf_42 rfl (by rw [hnL]; decide) rfl ?_
      refine r_iconst (pc := 43) (v := 0) dX6_customerOf_43 (by decide) ?_
      refine r_istore (pc := 44) dX6_customerOf_44 (by rw [hnL]; decide) rfl ?_
      have L42 : ∀ (n40 : Nat) (v43 : Int32) (v44 : Int32) (m45 : gM), fX6_customerOf_L46 p1 p2 n40 v43 v44 m45 = some o → AW Y cX6_customerOf RX6 46 [some (.ref 5693), some (.int p1), some (.int p2), some (.int v43), some (.int v44)] [] m45 := by
        intro n40
        induction n40 with
        | zero =>
          intro v43 v44 m45 h
          exact absurd h (by simp [fX6_customerOf_L46])
        | succ n40 ih41 =>
          intro v43 v44 m45 h
          rw [fX6_customerOf_L46] at h
          refine r_iload (pc := 46) dX6_customerOf_46 rfl ?_
          refine r_bipush (pc := 48) (v := 7) dX6_customerOf_48 (by decide) ?_
          refine r_icmp_ge (pc := 50) (tgt := 74) dX6_customerOf_50 (by decide) h (fun h => ?_) (fun h => ?_)
          · refine r_iload_n (pc := 74) dX6_customerOf_74 rfl rfl ?_
            refine r_sw h (fun g46 h => ?_) (fun g46 h => ?_)
            · refine r_lookup (pc := 75) (tgt := 116) (off := 41) dX6_customerOf_75 (by decide) (by rw [g46]; first | decide | (show Op.lookupswitch.offset _ _ (Int32.toInt 0) = _; decide)) (by decide) ?_
              refine r_aload_n (pc := 116) dX6_customerOf_116 rfl rfl ?_
              refine fX6_13 (pc := 117) hF dX6_customerOf_117 (fun b47 => ?_)
              refine r_iload_n (pc := 120) dX6_customerOf_120 rfl rfl ?_
              refine r_iconst (pc := 121) (v := 0) dX6_customerOf_121 (by decide) ?_
              obtain ⟨m48, x49, q50, h⟩ := gCl_some h
              refine r_callS (pc := 122) [.ref _, .int _, .int _] (tX6_of _ _ _ hF _ _ _ _ _ _ q50 b47) ⟨rfl, rfl⟩ cd_X6_of wX6_53 nm_X6_of rfl (by rw [hRm]; decide) rfl (Nat.le_of_ble_eq_true rfl) dX6_customerOf_122 ?_
              exact r_iretH dX6_customerOf_125 h he
            refine r_sw h (fun g51 h => ?_) (fun g51 h => ?_)
            · refine r_lookup (pc := 75) (tgt := 126) (off := 51) dX6_customerOf_75 (by decide) (by rw [g51]; first | decide | (show Op.lookupswitch.offset _ _ (Int32.toInt 1) = _; decide)) (by decide) ?_
              refine r_iload_n (pc := 126) dX6_customerOf_126 rfl rfl ?_
              exact r_iretH dX6_customerOf_127 h he
            refine r_sw h (fun g52 h => ?_) (fun g52 h => ?_)
            · refine r_lookup (pc := 75) (tgt := 128) (off := 53) dX6_customerOf_75 (by decide) (by rw [g52]; first | decide | (show Op.lookupswitch.offset _ _ (Int32.toInt 9) = _; decide)) (by decide) ?_
              refine r_aload_n (pc := 128) dX6_customerOf_128 rfl rfl ?_
              refine fX6_13 (pc := 129) hF dX6_customerOf_129 (fun b53 => ?_)
              refine r_iload_n (pc := 132) dX6_customerOf_132 rfl rfl ?_
              refine r_aload_n (pc := 133) dX6_customerOf_133 rfl rfl ?_
              refine fX6_13 (pc := 134) hF dX6_customerOf_134 (fun b54 => ?_)
              refine r_iconst (pc := 137) (v := 1) dX6_customerOf_137 (by decide) ?_
              refine r_iald (pc := 138) dX6_customerOf_138 b54 h (fun x55 h => ?_)
              obtain ⟨m56, x57, q58, h⟩ := gCl_some h
              refine r_callS (pc := 139) [.ref _, .int _, .int _] (tX6_dueOn _ _ _ hF _ _ _ _ _ _ q58 b53) ⟨rfl, rfl⟩ cd_X6_dueOn wX6_61 nm_X6_dueOn rfl (by rw [hRm]; decide) rfl (Nat.le_of_ble_eq_true rfl) dX6_customerOf_139 ?_
              exact r_iretH dX6_customerOf_142 h he
            refine r_sw h (fun g59 h => ?_) (fun g59 h => ?_)
            · refine r_lookup (pc := 75) (tgt := 143) (off := 68) dX6_customerOf_75 (by decide) (by rw [g59]; first | decide | (show Op.lookupswitch.offset _ _ (Int32.toInt 10) = _; decide)) (by decide) ?_
              refine r_aload_n (pc := 143) dX6_customerOf_143 rfl rfl ?_
              refine fX6_13 (pc := 144) hF dX6_customerOf_144 (fun b60 => ?_)
              refine r_iload_n (pc := 147) dX6_customerOf_147 rfl rfl ?_
              obtain ⟨m61, x62, q63, h⟩ := gCl_some h
              refine r_callS (pc := 148) [.ref _, .int _] (tX6_nextDue _ _ _ hF _ _ _ _ _ q63 b60) ⟨rfl, rfl⟩ cd_X6_nextDue wX6_197 nm_X6_nextDue rfl (by rw [hRm]; decide) rfl (Nat.le_of_ble_eq_true rfl) dX6_customerOf_148 ?_
              exact r_iretH dX6_customerOf_151 h he
            have g46n := gNe g46 (z := 0) (by decide)
            have g51n := gNe g51 (z := 1) (by decide)
            have g52n := gNe g52 (z := 9) (by decide)
            have g59n := gNe g59 (z := 10) (by decide)
            refine r_lookup (pc := 75) (tgt := 152) (off := 77) dX6_customerOf_75 (by decide) (by simp [Op.lookupswitch.offset, Ne.symm g46n, Ne.symm g51n, Ne.symm g52n, Ne.symm g59n]) (by decide) ?_
            refine r_aload_n (pc := 152) dX6_customerOf_152 rfl rfl ?_
            refine fX6_13 (pc := 153) hF dX6_customerOf_153 (fun b64 => ?_)
            refine r_iload_n (pc := 156) dX6_customerOf_156 rfl rfl ?_
            refine r_iload_n (pc := 157) dX6_customerOf_157 rfl rfl ?_
            refine r_bipush (pc := 158) (v := 6) dX6_customerOf_158 (by decide) ?_
            refine r_iadd (pc := 160) dX6_customerOf_160 ?_
            obtain ⟨m65, x66, q67, h⟩ := gCl_some h
            refine r_callS (pc := 161) [.ref _, .int _, .int _] (tX6_of _ _ _ hF _ _ _ _ _ _ q67 b64) ⟨rfl, rfl⟩ cd_X6_of wX6_53 nm_X6_of rfl (by rw [hRm]; decide) rfl (Nat.le_of_ble_eq_true rfl) dX6_customerOf_161 ?_
            exact r_iretH dX6_customerOf_164 h he
          · refine r_iload_n (pc := 53) dX6_customerOf_53 rfl rfl ?_
            refine r_aload_n (pc := 54) dX6_customerOf_54 rfl rfl ?_
            refine fX6_13 (pc := 55) hF dX6_customerOf_55 (fun b68 => ?_)
            refine r_iload_n (pc := 58) dX6_customerOf_58 rfl rfl ?_
            refine r_iconst (pc := 59) (v := 1) dX6_customerOf_59 (by decide) ?_
            refine r_iload (pc := 60) dX6_customerOf_60 rfl ?_
            refine r_iadd (pc := 62) dX6_customerOf_62 ?_
            obtain ⟨m69, x70, q71, h⟩ := gCl_some h
            refine r_callS (pc := 63) [.ref _, .int _, .int _] (tX6_of _ _ _ hF _ _ _ _ _ _ q71 b68) ⟨rfl, rfl⟩ cd_X6_of wX6_53 nm_X6_of rfl (by rw [hRm]; decide) rfl (Nat.le_of_ble_eq_true rfl) dX6_customerOf_63 ?_
            refine r_iadd (pc := 66) dX6_customerOf_66 ?_
            refine r_istore_nL (pc := 67) dX6_customerOf_67 rfl (by rw [hnL]; decide) h (fun x72 h => ?_)
            refine r_iinc (pc := 68) (d := 1) dX6_customerOf_68 rfl (by decide) (by rw [hnL]; decide) h (fun x73 h => ?_)
            refine r_goto (pc := 71) (tgt := 46) dX6_customerOf_71 (by decide) ?_
            exact r_mask [true, true, true, true, true] rfl (ih41 _ _ _ h)
      exact r_mask [true, true, true, true, true] rfl (L42 _ _ _ _ h)
    · refine r_iconst (pc := 39) (v := 0) dX6_customerOf_39 (by decide) ?_
      exact r_iretH dX6_customerOf_40 h he
  · refine r_if_ne (pc := 9) (tgt := 16) dX6_customerOf_9 (by decide) h (fun h => ?_) (fun h => ?_)
    · refine r_iload_n (pc := 16) dX6_customerOf_16 rfl rfl ?_
      refine r_i2l (pc := 17) dX6_customerOf_17 ?_
      refine r_lconst (pc := 18) (v := 0) dX6_customerOf_18 (by decide) ?_
      refine r_ldc2 (pc := 19) (v := 10) dX6_customerOf_19 cX6_195 ?_
      obtain ⟨m74, x75, q76, h⟩ := gCl_some h
      refine r_callS (pc := 22) [.long _, .long _, .long _] (tX6_in _ _ _ hF _ _ _ _ _ q76) ⟨rfl, rfl⟩ cd_X6_in wX6_37 nm_X6_in rfl (by rw [hRm]; decide) rfl (Nat.le_of_ble_eq_true rfl) dX6_customerOf_22 ?_
      refine r_if_eq (pc := 25) (tgt := 32) dX6_customerOf_25 (by decide) h (fun h => ?_) (fun h => ?_)
      · refine r_iconst (pc := 32) (v := 2) dX6_customerOf_32 (by decide) ?_
        exact r_mask [true, true, true, false, false] rfl (hJ8 _ _ h)
      · refine r_iconst (pc := 28) (v := 0) dX6_customerOf_28 (by decide) ?_
        refine r_goto (pc := 29) (tgt := 33) dX6_customerOf_29 (by decide) ?_
        exact r_mask [true, true, true, false, false] rfl (hJ8 _ _ h)
    · refine r_iconst (pc := 12) (v := 1) dX6_customerOf_12 (by decide) ?_
      refine r_goto (pc := 13) (tgt := 33) dX6_customerOf_13 (by decide) ?_
      exact r_mask [true, true, true, false, false] rfl (hJ8 _ _ h)
set_option maxHeartbeats 4000000 in
set_option maxRecDepth 100000 in
theorem tX6_ordered (l : Launch) (G : gX) (u : gU) (hF : gFull u) (p1 : Int32) (p2 : Int32) (m : gM) (o : gM × Int32) (h : fX6_ordered p1 p2 m = some o)  : gMet l G u yX6_ordered (.code yX6_ordered cX6_ordered 3 (some .int)) rmX6_ordered [.ref 5693, .int p1, .int p2] m o.1 (some (.int o.2)) := by
  refine gMet_of (own := RX6) (k := 0) (by decide) rfl ⟨rfl, rfl⟩ (Nat.le_of_ble_eq_true rfl) [some (.ref 5693), some (.int p1), some (.int p2)] rfl (fun Y hG hu hnL hLn hRm he => ?_)
  subst hG hu hLn
  unfold fX6_ordered at h
  refine r_aload_n (pc := 0) dX6_ordered_0 rfl rfl ?_
  refine r_aload_n (pc := 1) dX6_ordered_1 rfl rfl ?_
  refine fX6_13 (pc := 2) hF dX6_ordered_2 (fun b1 => ?_)
  refine r_iload_n (pc := 5) dX6_ordered_5 rfl rfl ?_
  obtain ⟨m2, x3, q4, h⟩ := gCl_some h
  refine r_callS (pc := 6) [.ref _, .int _] (tX6_isCustomer _ _ _ hF _ _ _ _ _ q4 b1) ⟨rfl, rfl⟩ cd_X6_isCustomer wX6_139 nm_X6_isCustomer rfl (by rw [hRm]; decide) rfl (Nat.le_of_ble_eq_true rfl) dX6_ordered_6 ?_
  refine r_jnK h (fun (k7 : Int32 → gM → Option (gM × Int32)) => ∀ (x5 : Int32) (m6 : gM), k7 x5 m6 = some o → AW Y cX6_ordered RX6 24 [some (.ref 5693), some (.int p1), some (.int p2)] [.int x5, .ref 5693] m6) (fun x5 m6 h => ?_) (fun k7 hJ8 h => ?_)
  · obtain ⟨m9, x10, q11, h⟩ := gCl_some h
    refine r_callV (kd := 5) (pc := 24) [.int _] (tX6_refused _ _ _ hF _ _ _ q11) ⟨rfl, rfl⟩ cd_X6_refused wX6_108 nm_X6_refused rfl (by rw [hRm]; decide) rfl (Nat.le_of_ble_eq_true rfl) rfl (by decide) (gO5 hF) dX6_ordered_24 ?_
    refine r_if_eq (pc := 27) (tgt := 32) dX6_ordered_27 (by decide) h (fun h => ?_) (fun h => ?_)
    · refine r_aload_n (pc := 32) dX6_ordered_32 rfl rfl ?_
      refine fX6_13 (pc := 33) hF dX6_ordered_33 (fun b12 => ?_)
      refine r_iload_n (pc := 36) dX6_ordered_36 rfl rfl ?_
      refine r_iconst (pc := 37) (v := 1) dX6_ordered_37 (by decide) ?_
      refine r_iload_n (pc := 38) dX6_ordered_38 rfl rfl ?_
      refine r_iadd (pc := 39) dX6_ordered_39 ?_
      obtain ⟨m13, x14, q15, h⟩ := gCl_some h
      refine r_callS (pc := 40) [.ref _, .int _, .int _] (tX6_of _ _ _ hF _ _ _ _ _ _ q15 b12) ⟨rfl, rfl⟩ cd_X6_of wX6_53 nm_X6_of rfl (by rw [hRm]; decide) rfl (Nat.le_of_ble_eq_true rfl) dX6_ordered_40 ?_
      exact r_iretH dX6_ordered_43 h he
    · refine r_iconst (pc := 30) (v := 0) dX6_ordered_30 (by decide) ?_
      exact r_iretH dX6_ordered_31 h he
  · refine r_if_eq (pc := 9) (tgt := 23) dX6_ordered_9 (by decide) h (fun h => ?_) (fun h => ?_)
    · refine r_iconst (pc := 23) (v := 1) dX6_ordered_23 (by decide) ?_
      exact r_mask [true, true, true] rfl (hJ8 _ _ h)
    · refine r_iload_n (pc := 12) dX6_ordered_12 rfl rfl ?_
      obtain ⟨m16, x17, q18, h⟩ := gCl_some h
      refine r_callS (pc := 13) [.int _] (tX6_isWeekday _ _ _ hF _ _ _ q18) ⟨rfl, rfl⟩ cd_X6_isWeekday wX6_200 nm_X6_isWeekday rfl (by rw [hRm]; decide) rfl (Nat.le_of_ble_eq_true rfl) dX6_ordered_13 ?_
      refine r_if_eq (pc := 16) (tgt := 23) dX6_ordered_16 (by decide) h (fun h => ?_) (fun h => ?_)
      · refine r_iconst (pc := 23) (v := 1) dX6_ordered_23 (by decide) ?_
        exact r_mask [true, true, true] rfl (hJ8 _ _ h)
      · refine r_iconst (pc := 19) (v := 0) dX6_ordered_19 (by decide) ?_
        refine r_goto (pc := 20) (tgt := 24) dX6_ordered_20 (by decide) ?_
        exact r_mask [true, true, true] rfl (hJ8 _ _ h)
set_option maxHeartbeats 4000000 in
set_option maxRecDepth 100000 in
theorem tX6_away (l : Launch) (G : gX) (u : gU) (hF : gFull u) (p1 : Int32) (p2 : Int32) (p3 : Int32) (m : gM) (o : gM × Int32) (h : fX6_away p1 p2 p3 m = some o)  : gMet l G u yX6_away (.code yX6_away cX6_away 4 (some .int)) rmX6_away [.ref 5693, .int p1, .int p2, .int p3] m o.1 (some (.int o.2)) := by
  refine gMet_of (own := RX6) (k := 0) (by decide) rfl ⟨rfl, rfl⟩ (Nat.le_of_ble_eq_true rfl) [some (.ref 5693), some (.int p1), some (.int p2), some (.int p3)] rfl (fun Y hG hu hnL hLn hRm he => ?_)
  subst hG hu hLn
  unfold fX6_away at h
  refine r_aload_n (pc := 0) dX6_away_0 rfl rfl ?_
  refine r_aload_n (pc := 1) dX6_away_1 rfl rfl ?_
  refine fX6_13 (pc := 2) hF dX6_away_2 (fun b1 => ?_)
  refine r_iload_n (pc := 5) dX6_away_5 rfl rfl ?_
  obtain ⟨m2, x3, q4, h⟩ := gCl_some h
  refine r_callS (pc := 6) [.ref _, .int _] (tX6_isCustomer _ _ _ hF _ _ _ _ _ q4 b1) ⟨rfl, rfl⟩ cd_X6_isCustomer wX6_139 nm_X6_isCustomer rfl (by rw [hRm]; decide) rfl (Nat.le_of_ble_eq_true rfl) dX6_away_6 ?_
  refine r_jnK h (fun (k7 : Int32 → gM → Option (gM × Int32)) => ∀ (x5 : Int32) (m6 : gM), k7 x5 m6 = some o → AW Y cX6_away RX6 43 [some (.ref 5693), some (.int p1), some (.int p2), some (.int p3)] [.int x5, .ref 5693] m6) (fun x5 m6 h => ?_) (fun k7 hJ8 h => ?_)
  · obtain ⟨m9, x10, q11, h⟩ := gCl_some h
    refine r_callV (kd := 5) (pc := 43) [.int _] (tX6_refused _ _ _ hF _ _ _ q11) ⟨rfl, rfl⟩ cd_X6_refused wX6_108 nm_X6_refused rfl (by rw [hRm]; decide) rfl (Nat.le_of_ble_eq_true rfl) rfl (by decide) (gO5 hF) dX6_away_43 ?_
    refine r_if_eq (pc := 46) (tgt := 51) dX6_away_46 (by decide) h (fun h => ?_) (fun h => ?_)
    · refine r_iload_n (pc := 51) dX6_away_51 rfl rfl ?_
      refine r_aload_n (pc := 52) dX6_away_52 rfl rfl ?_
      refine fX6_13 (pc := 53) hF dX6_away_53 (fun b12 => ?_)
      refine r_iload_n (pc := 56) dX6_away_56 rfl rfl ?_
      refine r_bipush (pc := 57) (v := 14) dX6_away_57 (by decide) ?_
      obtain ⟨m13, x14, q15, h⟩ := gCl_some h
      refine r_callS (pc := 59) [.ref _, .int _, .int _] (tX6_of _ _ _ hF _ _ _ _ _ _ q15 b12) ⟨rfl, rfl⟩ cd_X6_of wX6_53 nm_X6_of rfl (by rw [hRm]; decide) rfl (Nat.le_of_ble_eq_true rfl) dX6_away_59 ?_
      refine r_icmp_ge (pc := 62) (tgt := 84) dX6_away_62 (by decide) h (fun h => ?_) (fun h => ?_)
      · refine r_iconst (pc := 84) (v := (-1)) dX6_away_84 (by decide) ?_
        exact r_iretH dX6_away_85 h he
      · refine r_aload_n (pc := 65) dX6_away_65 rfl rfl ?_
        refine fX6_13 (pc := 66) hF dX6_away_66 (fun b16 => ?_)
        refine r_iload_n (pc := 69) dX6_away_69 rfl rfl ?_
        refine r_bipush (pc := 70) (v := 15) dX6_away_70 (by decide) ?_
        refine r_iconst (pc := 72) (v := 2) dX6_away_72 (by decide) ?_
        refine r_iload_n (pc := 73) dX6_away_73 rfl rfl ?_
        refine r_imul (pc := 74) dX6_away_74 ?_
        refine r_iadd (pc := 75) dX6_away_75 ?_
        refine r_iload_n (pc := 76) dX6_away_76 rfl rfl ?_
        refine r_iadd (pc := 77) dX6_away_77 ?_
        obtain ⟨m17, x18, q19, h⟩ := gCl_some h
        refine r_callS (pc := 78) [.ref _, .int _, .int _] (tX6_of _ _ _ hF _ _ _ _ _ _ q19 b16) ⟨rfl, rfl⟩ cd_X6_of wX6_53 nm_X6_of rfl (by rw [hRm]; decide) rfl (Nat.le_of_ble_eq_true rfl) dX6_away_78 ?_
        refine r_goto (pc := 81) (tgt := 85) dX6_away_81 (by decide) ?_
        exact r_iretH dX6_away_85 h he
    · refine r_iconst (pc := 49) (v := 0) dX6_away_49 (by decide) ?_
      exact r_iretH dX6_away_50 h he
  · refine r_if_eq (pc := 9) (tgt := 24) dX6_away_9 (by decide) h (fun h => ?_) (fun h => ?_)
    · refine r_iconst (pc := 24) (v := 1) dX6_away_24 (by decide) ?_
      refine r_goto (pc := 25) (tgt := 43) dX6_away_25 (by decide) ?_
      exact r_mask [true, true, true, true] rfl (hJ8 _ _ h)
    · refine r_iload_n (pc := 12) dX6_away_12 rfl rfl ?_
      refine r_i2l (pc := 13) dX6_away_13 ?_
      refine r_lconst (pc := 14) (v := 0) dX6_away_14 (by decide) ?_
      refine r_ldc2 (pc := 15) (v := 2) dX6_away_15 cX6_203 ?_
      obtain ⟨m20, x21, q22, h⟩ := gCl_some h
      refine r_callS (pc := 18) [.long _, .long _, .long _] (tX6_in _ _ _ hF _ _ _ _ _ q22) ⟨rfl, rfl⟩ cd_X6_in wX6_37 nm_X6_in rfl (by rw [hRm]; decide) rfl (Nat.le_of_ble_eq_true rfl) dX6_away_18 ?_
      refine r_if_ne (pc := 21) (tgt := 28) dX6_away_21 (by decide) h (fun h => ?_) (fun h => ?_)
      · refine r_iload_n (pc := 28) dX6_away_28 rfl rfl ?_
        refine r_i2l (pc := 29) dX6_away_29 ?_
        refine r_lconst (pc := 30) (v := 0) dX6_away_30 (by decide) ?_
        refine r_lconst (pc := 31) (v := 1) dX6_away_31 (by decide) ?_
        obtain ⟨m23, x24, q25, h⟩ := gCl_some h
        refine r_callS (pc := 32) [.long _, .long _, .long _] (tX6_in _ _ _ hF _ _ _ _ _ q25) ⟨rfl, rfl⟩ cd_X6_in wX6_37 nm_X6_in rfl (by rw [hRm]; decide) rfl (Nat.le_of_ble_eq_true rfl) dX6_away_32 ?_
        refine r_if_eq (pc := 35) (tgt := 42) dX6_away_35 (by decide) h (fun h => ?_) (fun h => ?_)
        · refine r_iconst (pc := 42) (v := 2) dX6_away_42 (by decide) ?_
          exact r_mask [true, true, true, true] rfl (hJ8 _ _ h)
        · refine r_iconst (pc := 38) (v := 0) dX6_away_38 (by decide) ?_
          refine r_goto (pc := 39) (tgt := 43) dX6_away_39 (by decide) ?_
          exact r_mask [true, true, true, true] rfl (hJ8 _ _ h)
      · refine r_iconst (pc := 24) (v := 1) dX6_away_24 (by decide) ?_
        refine r_goto (pc := 25) (tgt := 43) dX6_away_25 (by decide) ?_
        exact r_mask [true, true, true, true] rfl (hJ8 _ _ h)
set_option maxHeartbeats 4000000 in
set_option maxRecDepth 100000 in
theorem tX6_isClosed (l : Launch) (G : gX) (u : gU) (hF : gFull u) (p1 : Int32) (p2 : Int32) (m : gM) (o : gM × Int32) (h : fX6_isClosed p1 p2 m = some o)  : gMet l G u yX6_isClosed (.code yX6_isClosed cX6_isClosed 3 (some .int)) rmX6_isClosed [.ref 5693, .int p1, .int p2] m o.1 (some (.int o.2)) := by
  refine gMet_of (own := RX6) (k := 0) (by decide) rfl ⟨rfl, rfl⟩ (Nat.le_of_ble_eq_true rfl) [some (.ref 5693), some (.int p1), some (.int p2)] rfl (fun Y hG hu hnL hLn hRm he => ?_)
  subst hG hu hLn
  unfold fX6_isClosed at h
  refine r_aload_n (pc := 0) dX6_isClosed_0 rfl rfl ?_
  refine r_iload_n (pc := 1) dX6_isClosed_1 rfl rfl ?_
  obtain ⟨m1, x2, q3, h⟩ := gCl_some h
  refine r_callS (pc := 2) [.int _] (tX6_isStreet _ _ _ hF _ _ _ q3) ⟨rfl, rfl⟩ cd_X6_isStreet wX6_205 nm_X6_isStreet rfl (by rw [hRm]; decide) rfl (Nat.le_of_ble_eq_true rfl) dX6_isClosed_2 ?_
  refine r_jnK h (fun (k6 : Int32 → gM → Option (gM × Int32)) => ∀ (x4 : Int32) (m5 : gM), k6 x4 m5 = some o → AW Y cX6_isClosed RX6 20 [some (.ref 5693), some (.int p1), some (.int p2)] [.int x4, .ref 5693] m5) (fun x4 m5 h => ?_) (fun k6 hJ7 h => ?_)
  · obtain ⟨m8, x9, q10, h⟩ := gCl_some h
    refine r_callV (kd := 5) (pc := 20) [.int _] (tX6_refused _ _ _ hF _ _ _ q10) ⟨rfl, rfl⟩ cd_X6_refused wX6_108 nm_X6_refused rfl (by rw [hRm]; decide) rfl (Nat.le_of_ble_eq_true rfl) rfl (by decide) (gO5 hF) dX6_isClosed_20 ?_
    refine r_if_eq (pc := 23) (tgt := 28) dX6_isClosed_23 (by decide) h (fun h => ?_) (fun h => ?_)
    · refine r_aload_n (pc := 28) dX6_isClosed_28 rfl rfl ?_
      refine fX6_13 (pc := 29) hF dX6_isClosed_29 (fun b11 => ?_)
      refine r_bipush (pc := 32) (v := 20) dX6_isClosed_32 (by decide) ?_
      refine r_bipush (pc := 34) (v := 7) dX6_isClosed_34 (by decide) ?_
      refine r_iload_n (pc := 36) dX6_isClosed_36 rfl rfl ?_
      refine r_imul (pc := 37) dX6_isClosed_37 ?_
      refine r_iadd (pc := 38) dX6_isClosed_38 ?_
      refine r_iload_n (pc := 39) dX6_isClosed_39 rfl rfl ?_
      refine r_iadd (pc := 40) dX6_isClosed_40 ?_
      refine r_iald (pc := 41) dX6_isClosed_41 b11 h (fun x12 h => ?_)
      exact r_iretH dX6_isClosed_42 h he
    · refine r_iconst (pc := 26) (v := 0) dX6_isClosed_26 (by decide) ?_
      exact r_iretH dX6_isClosed_27 h he
  · refine r_if_eq (pc := 5) (tgt := 19) dX6_isClosed_5 (by decide) h (fun h => ?_) (fun h => ?_)
    · refine r_iconst (pc := 19) (v := 1) dX6_isClosed_19 (by decide) ?_
      exact r_mask [true, true, true] rfl (hJ7 _ _ h)
    · refine r_iload_n (pc := 8) dX6_isClosed_8 rfl rfl ?_
      obtain ⟨m13, x14, q15, h⟩ := gCl_some h
      refine r_callS (pc := 9) [.int _] (tX6_isWeekday _ _ _ hF _ _ _ q15) ⟨rfl, rfl⟩ cd_X6_isWeekday wX6_200 nm_X6_isWeekday rfl (by rw [hRm]; decide) rfl (Nat.le_of_ble_eq_true rfl) dX6_isClosed_9 ?_
      refine r_if_eq (pc := 12) (tgt := 19) dX6_isClosed_12 (by decide) h (fun h => ?_) (fun h => ?_)
      · refine r_iconst (pc := 19) (v := 1) dX6_isClosed_19 (by decide) ?_
        exact r_mask [true, true, true] rfl (hJ7 _ _ h)
      · refine r_iconst (pc := 15) (v := 0) dX6_isClosed_15 (by decide) ?_
        refine r_goto (pc := 16) (tgt := 20) dX6_isClosed_16 (by decide) ?_
        exact r_mask [true, true, true] rfl (hJ7 _ _ h)
set_option maxHeartbeats 4000000 in
set_option maxRecDepth 100000 in
theorem tX6_round (l : Launch) (G : gX) (u : gU) (hF : gFull u) (p1 : Int32) (m : gM) (o : gM × Int32) (h : fX6_round p1 m = some o)  : gMet l G u yX6_round (.code yX6_round cX6_round 2 (some .int)) rmX6_round [.ref 5693, .int p1] m o.1 (some (.int o.2)) := by
  refine gMet_of (own := RX6) (k := 0) (by decide) rfl ⟨rfl, rfl⟩ (Nat.le_of_ble_eq_true rfl) [some (.ref 5693), some (.int p1)] rfl (fun Y hG hu hnL hLn hRm he => ?_)
  subst hG hu hLn
  unfold fX6_round at h
  refine r_aload_n (pc := 0) dX6_round_0 rfl rfl ?_
  refine r_iload_n (pc := 1) dX6_round_1 rfl rfl ?_
  obtain ⟨m1, x2, q3, h⟩ := gCl_some h
  refine r_callS (pc := 2) [.int _] (tX6_isStreet _ _ _ hF _ _ _ q3) ⟨rfl, rfl⟩ cd_X6_isStreet wX6_205 nm_X6_isStreet rfl (by rw [hRm]; decide) rfl (Nat.le_of_ble_eq_true rfl) dX6_round_2 ?_
  refine r_jn1 h (fun x4 => AW Y cX6_round RX6 13 [some (.ref 5693), some (.int p1)] [.int x4, .ref 5693] m1) (fun x4 h => ?_) (fun hJ5 => ?_)
  · obtain ⟨m7, x8, q9, h⟩ := gCl_some h
    refine r_callV (kd := 5) (pc := 13) [.int _] (tX6_refused _ _ _ hF _ _ _ q9) ⟨rfl, rfl⟩ cd_X6_refused wX6_108 nm_X6_refused rfl (by rw [hRm]; decide) rfl (Nat.le_of_ble_eq_true rfl) rfl (by decide) (gO5 hF) dX6_round_13 ?_
    refine r_if_eq (pc := 16) (tgt := 21) dX6_round_16 (by decide) h (fun h => ?_) (fun h => ?_)
    · refine r_aload_n (pc := 21) dX6_round_21 rfl rfl ?_
      refine fX6_13 (pc := 22) hF dX6_round_22 (fun b10 => ?_)
      refine r_bipush (pc := 25) (v := 16) dX6_round_25 (by decide) ?_
      refine r_iload_n (pc := 27) dX6_round_27 rfl rfl ?_
      refine r_iadd (pc := 28) dX6_round_28 ?_
      refine r_iald (pc := 29) dX6_round_29 b10 h (fun x11 h => ?_)
      exact r_iretH dX6_round_30 h he
    · refine r_iconst (pc := 19) (v := 0) dX6_round_19 (by decide) ?_
      exact r_iretH dX6_round_20 h he
  · refine r_ifC_eq (pc := 5) (tgt := 12) dX6_round_5 (by decide) (fun g6 => ?_) (fun g6 => ?_)
    · refine r_iconst (pc := 12) (v := 1) dX6_round_12 (by decide) ?_
      exact r_mask [true, true] rfl (hJ5 _ (by rw [if_pos g6]))
    · refine r_iconst (pc := 8) (v := 0) dX6_round_8 (by decide) ?_
      refine r_goto (pc := 9) (tgt := 13) dX6_round_9 (by decide) ?_
      exact r_mask [true, true] rfl (hJ5 _ (by rw [if_neg g6]))
set_option maxHeartbeats 4000000 in
set_option maxRecDepth 100000 in
theorem tX6_setting (l : Launch) (G : gX) (u : gU) (hF : gFull u) (p1 : Int32) (m : gM) (o : gM × Int32) (h : fX6_setting p1 m = some o)  : gMet l G u yX6_setting (.code yX6_setting cX6_setting 2 (some .int)) rmX6_setting [.ref 5693, .int p1] m o.1 (some (.int o.2)) := by
  refine gMet_of (own := RX6) (k := 0) (by decide) rfl ⟨rfl, rfl⟩ (Nat.le_of_ble_eq_true rfl) [some (.ref 5693), some (.int p1)] rfl (fun Y hG hu hnL hLn hRm he => ?_)
  subst hG hu hLn
  unfold fX6_setting at h
  refine r_aload_n (pc := 0) dX6_setting_0 rfl rfl ?_
  refine r_iload_n (pc := 1) dX6_setting_1 rfl rfl ?_
  refine r_i2l (pc := 2) dX6_setting_2 ?_
  refine r_lconst (pc := 3) (v := 0) dX6_setting_3 (by decide) ?_
  refine r_ldc2 (pc := 4) (v := 4) dX6_setting_4 cX6_208 ?_
  obtain ⟨m1, x2, q3, h⟩ := gCl_some h
  refine r_callS (pc := 7) [.long _, .long _, .long _] (tX6_in _ _ _ hF _ _ _ _ _ q3) ⟨rfl, rfl⟩ cd_X6_in wX6_37 nm_X6_in rfl (by rw [hRm]; decide) rfl (Nat.le_of_ble_eq_true rfl) dX6_setting_7 ?_
  refine r_jn1 h (fun x4 => AW Y cX6_setting RX6 18 [some (.ref 5693), some (.int p1)] [.int x4, .ref 5693] m1) (fun x4 h => ?_) (fun hJ5 => ?_)
  · obtain ⟨m7, x8, q9, h⟩ := gCl_some h
    refine r_callV (kd := 5) (pc := 18) [.int _] (tX6_refused _ _ _ hF _ _ _ q9) ⟨rfl, rfl⟩ cd_X6_refused wX6_108 nm_X6_refused rfl (by rw [hRm]; decide) rfl (Nat.le_of_ble_eq_true rfl) rfl (by decide) (gO5 hF) dX6_setting_18 ?_
    refine r_if_eq (pc := 21) (tgt := 26) dX6_setting_21 (by decide) h (fun h => ?_) (fun h => ?_)
    · refine r_aload_n (pc := 26) dX6_setting_26 rfl rfl ?_
      refine fX6_13 (pc := 27) hF dX6_setting_27 (fun b10 => ?_)
      refine r_bipush (pc := 30) (v := 11) dX6_setting_30 (by decide) ?_
      refine r_iload_n (pc := 32) dX6_setting_32 rfl rfl ?_
      refine r_iadd (pc := 33) dX6_setting_33 ?_
      refine r_iald (pc := 34) dX6_setting_34 b10 h (fun x11 h => ?_)
      exact r_iretH dX6_setting_35 h he
    · refine r_iconst (pc := 24) (v := 0) dX6_setting_24 (by decide) ?_
      exact r_iretH dX6_setting_25 h he
  · refine r_ifC_eq (pc := 10) (tgt := 17) dX6_setting_10 (by decide) (fun g6 => ?_) (fun g6 => ?_)
    · refine r_iconst (pc := 17) (v := 1) dX6_setting_17 (by decide) ?_
      exact r_mask [true, true] rfl (hJ5 _ (by rw [if_pos g6]))
    · refine r_iconst (pc := 13) (v := 0) dX6_setting_13 (by decide) ?_
      refine r_goto (pc := 14) (tgt := 18) dX6_setting_14 (by decide) ?_
      exact r_mask [true, true] rfl (hJ5 _ (by rw [if_neg g6]))
set_option maxHeartbeats 4000000 in
set_option maxRecDepth 100000 in
theorem tX6_due (l : Launch) (G : gX) (u : gU) (hF : gFull u) (p1 : Int32) (p2 : Int32) (p3 : Int32) (p4 : Int32) (m : gM) (o : gM × Int32) (h : fX6_due p1 p2 p3 p4 m = some o)  : gMet l G u yX6_due (.code yX6_due cX6_due 7 (some .int)) rmX6_due [.ref 5693, .int p1, .int p2, .int p3, .int p4] m o.1 (some (.int o.2)) := by
  refine gMet_of (own := RX6) (k := 2) (by decide) rfl ⟨rfl, rfl⟩ (Nat.le_of_ble_eq_true rfl) [some (.ref 5693), some (.int p1), some (.int p2), some (.int p3), some (.int p4), none, none] rfl (fun Y hG hu hnL hLn hRm he => ?_)
  subst hG hu hLn
  unfold fX6_due at h
  refine r_aload_n (pc := 0) dX6_due_0 rfl rfl ?_
  refine r_aload_n (pc := 1) dX6_due_1 rfl rfl ?_
  refine fX6_13 (pc := 2) hF dX6_due_2 (fun b1 => ?_)
  refine r_iload_n (pc := 5) dX6_due_5 rfl rfl ?_
  obtain ⟨m2, x3, q4, h⟩ := gCl_some h
  refine r_callS (pc := 6) [.ref _, .int _] (tX6_isCustomer _ _ _ hF _ _ _ _ _ q4 b1) ⟨rfl, rfl⟩ cd_X6_isCustomer wX6_139 nm_X6_isCustomer rfl (by rw [hRm]; decide) rfl (Nat.le_of_ble_eq_true rfl) dX6_due_6 ?_
  refine r_jnK h (fun (k7 : Int32 → gM → Option (gM × Int32)) => ∀ (x5 : Int32) (m6 : gM), k7 x5 m6 = some o → AW Y cX6_due RX6 56 [some (.ref 5693), some (.int p1), some (.int p2), some (.int p3), none, none, none] [.int x5, .ref 5693] m6) (fun x5 m6 h => ?_) (fun k7 hJ8 h => ?_)
  · obtain ⟨m9, x10, q11, h⟩ := gCl_some h
    refine r_callV (kd := 5) (pc := 56) [.int _] (tX6_refused _ _ _ hF _ _ _ q11) ⟨rfl, rfl⟩ cd_X6_refused wX6_108 nm_X6_refused rfl (by rw [hRm]; decide) rfl (Nat.le_of_ble_eq_true rfl) rfl (by decide) (gO5 hF) dX6_due_56 ?_
    refine r_if_eq (pc := 59) (tgt := 64) dX6_due_59 (by decide) h (fun h => ?_) (fun h => ?_)
    · refine r_iconst (pc := 64) (v := 0) dX6_due_64 (by decide) ?_
      refine r_istore (pc := 65) dX6_due_65 (by rw [hnL]; decide) rfl ?_
      refine r_iload_n (pc := 67) dX6_due_67 rfl rfl ?_
      refine r_istore (pc := 68) dX6_due_68 (by rw [hnL]; decide) rfl ?_
      have L20 : ∀ (n18 : Nat) (v21 : Int32) (v22 : Int32) (m23 : gM), fX6_due_L70 p1 p2 p3 n18 v21 v22 m23 = some o → AW Y cX6_due RX6 70 [some (.ref 5693), some (.int p1), some (.int p2), some (.int p3), none, some (.int v21), some (.int v22)] [] m23 := by
        intro n18
        induction n18 with
        | zero =>
          intro v21 v22 m23 h
          exact absurd h (by simp [fX6_due_L70])
        | succ n18 ih19 =>
          intro v21 v22 m23 h
          rw [fX6_due_L70] at h
          refine r_iload (pc := 70) dX6_due_70 rfl ?_
          refine r_iload_n (pc := 72) dX6_due_72 rfl rfl ?_
          refine r_iload_n (pc := 73) dX6_due_73 rfl rfl ?_
          refine r_iadd (pc := 74) dX6_due_74 ?_
          refine r_icmp_ge (pc := 75) (tgt := 99) dX6_due_75 (by decide) h (fun h => ?_) (fun h => ?_)
          · refine r_iload (pc := 99) dX6_due_99 rfl ?_
            exact r_iretH dX6_due_101 h he
          · refine r_iload (pc := 78) dX6_due_78 rfl ?_
            refine r_aload_n (pc := 80) dX6_due_80 rfl rfl ?_
            refine fX6_13 (pc := 81) hF dX6_due_81 (fun b24 => ?_)
            refine r_iload_n (pc := 84) dX6_due_84 rfl rfl ?_
            refine r_iload (pc := 85) dX6_due_85 rfl ?_
            obtain ⟨m25, x26, q27, h⟩ := gCl_some h
            refine r_callS (pc := 87) [.ref _, .int _, .int _] (tX6_dueOn _ _ _ hF _ _ _ _ _ _ q27 b24) ⟨rfl, rfl⟩ cd_X6_dueOn wX6_61 nm_X6_dueOn rfl (by rw [hRm]; decide) rfl (Nat.le_of_ble_eq_true rfl) dX6_due_87 ?_
            refine r_iadd (pc := 90) dX6_due_90 ?_
            refine r_istoreL (pc := 91) dX6_due_91 (by rw [hnL]; decide) h (fun x28 h => ?_)
            refine r_iinc (pc := 93) (d := 1) dX6_due_93 rfl (by decide) (by rw [hnL]; decide) h (fun x29 h => ?_)
            refine r_goto (pc := 96) (tgt := 70) dX6_due_96 (by decide) ?_
            exact r_mask [true, true, true, true, false, true, true] rfl (ih19 _ _ _ h)
      exact r_mask [true, true, true, true, false, true, true] rfl (L20 _ _ _ _ h)
    · refine r_iconst (pc := 62) (v := 0) dX6_due_62 (by decide) ?_
      exact r_iretH dX6_due_63 h he
  · refine r_if_ne (pc := 9) (tgt := 16) dX6_due_9 (by decide) h (fun h => ?_) (fun h => ?_)
    · refine r_iload_n (pc := 16) dX6_due_16 rfl rfl ?_
      refine r_i2l (pc := 17) dX6_due_17 ?_
      refine r_lconst (pc := 18) (v := 0) dX6_due_18 (by decide) ?_
      refine r_ldc2 (pc := 19) (v := 999) dX6_due_19 cX6_98 ?_
      obtain ⟨m30, x31, q32, h⟩ := gCl_some h
      refine r_callS (pc := 22) [.long _, .long _, .long _] (tX6_in _ _ _ hF _ _ _ _ _ q32) ⟨rfl, rfl⟩ cd_X6_in wX6_37 nm_X6_in rfl (by rw [hRm]; decide) rfl (Nat.le_of_ble_eq_true rfl) dX6_due_22 ?_
      refine r_if_eq (pc := 25) (tgt := 55) dX6_due_25 (by decide) h (fun h => ?_) (fun h => ?_)
      · refine r_iconst (pc := 55) (v := 2) dX6_due_55 (by decide) ?_
        exact r_mask [true, true, true, true, false, false, false] rfl (hJ8 _ _ h)
      · refine r_iload_n (pc := 28) dX6_due_28 rfl rfl ?_
        refine r_i2l (pc := 29) dX6_due_29 ?_
        refine r_lconst (pc := 30) (v := 0) dX6_due_30 (by decide) ?_
        refine r_ldc2 (pc := 31) (v := 500) dX6_due_31 cX6_210 ?_
        obtain ⟨m33, x34, q35, h⟩ := gCl_some h
        refine r_callS (pc := 34) [.long _, .long _, .long _] (tX6_in _ _ _ hF _ _ _ _ _ q35) ⟨rfl, rfl⟩ cd_X6_in wX6_37 nm_X6_in rfl (by rw [hRm]; decide) rfl (Nat.le_of_ble_eq_true rfl) dX6_due_34 ?_
        refine r_if_eq (pc := 37) (tgt := 55) dX6_due_37 (by decide) h (fun h => ?_) (fun h => ?_)
        · refine r_iconst (pc := 55) (v := 2) dX6_due_55 (by decide) ?_
          exact r_mask [true, true, true, true, false, false, false] rfl (hJ8 _ _ h)
        · refine r_iload (pc := 40) dX6_due_40 rfl ?_
          refine r_i2l (pc := 42) dX6_due_42 ?_
          refine r_lconst (pc := 43) (v := 0) dX6_due_43 (by decide) ?_
          refine r_lconst (pc := 44) (v := 1) dX6_due_44 (by decide) ?_
          obtain ⟨m36, x37, q38, h⟩ := gCl_some h
          refine r_callS (pc := 45) [.long _, .long _, .long _] (tX6_in _ _ _ hF _ _ _ _ _ q38) ⟨rfl, rfl⟩ cd_X6_in wX6_37 nm_X6_in rfl (by rw [hRm]; decide) rfl (Nat.le_of_ble_eq_true rfl) dX6_due_45 ?_
          refine r_if_eq (pc := 48) (tgt := 55) dX6_due_48 (by decide) h (fun h => ?_) (fun h => ?_)
          · refine r_iconst (pc := 55) (v := 2) dX6_due_55 (by decide) ?_
            exact r_mask [true, true, true, true, false, false, false] rfl (hJ8 _ _ h)
          · refine r_iconst (pc := 51) (v := 0) dX6_due_51 (by decide) ?_
            refine r_goto (pc := 52) (tgt := 56) dX6_due_52 (by decide) ?_
            exact r_mask [true, true, true, true, false, false, false] rfl (hJ8 _ _ h)
    · refine r_iconst (pc := 12) (v := 1) dX6_due_12 (by decide) ?_
      refine r_goto (pc := 13) (tgt := 56) dX6_due_13 (by decide) ?_
      exact r_mask [true, true, true, true, false, false, false] rfl (hJ8 _ _ h)
set_option maxHeartbeats 4000000 in
set_option maxRecDepth 100000 in
theorem tX6_remember (l : Launch) (G : gX) (u : gU) (hF : gFull u)  (m : gM) (o : gM) (h : fX6_remember  m = some o)  : gMet l G u yX6_remember (.code yX6_remember cX6_remember 2 none) rmX6_remember [.ref 5693] m o none := by
  refine gMet_of (own := RX6) (k := 1) (by decide) rfl ⟨rfl, rfl⟩ (Nat.le_of_ble_eq_true rfl) [some (.ref 5693), none] rfl (fun Y hG hu hnL hLn hRm he => ?_)
  subst hG hu hLn
  unfold fX6_remember at h
  refine r_aload_n (pc := 0) dX6_remember_0 rfl rfl ?_
  refine fX6_187 (pc := 1) dX6_remember_1 (gO5 hF) h (fun x1 h => ?_)
  refine r_bipush (pc := 4) (v := 14) dX6_remember_4 (by decide) ?_
  refine r_icmp_ne (pc := 6) (tgt := 50) dX6_remember_6 (by decide) h (fun h => ?_) (fun h => ?_)
  · refine r_aload_n (pc := 50) dX6_remember_50 rfl rfl ?_
    refine fX6_13 (pc := 51) hF dX6_remember_51 (fun b2 => ?_)
    refine r_iconst (pc := 54) (v := 0) dX6_remember_54 (by decide) ?_
    refine r_aload_n (pc := 55) dX6_remember_55 rfl rfl ?_
    refine fX6_19 (pc := 56) hF dX6_remember_56 (fun b3 => ?_)
    refine r_sipush (pc := 59) (v := 258) dX6_remember_59 (by decide) ?_
    refine r_aload_n (pc := 62) dX6_remember_62 rfl rfl ?_
    refine fX6_187 (pc := 63) dX6_remember_63 (gO5 hF) h (fun x4 h => ?_)
    refine r_imul (pc := 66) dX6_remember_66 ?_
    obtain ⟨m5, q7, h⟩ := gCv_some h
    refine r_callS (pc := 67) [.ref _, .int _, .ref _, .int _] (tX6_copyState _ _ _ hF _ _ _ _ _ _ _ _ q7 b2 b3) ⟨rfl, rfl⟩ cd_X6_copyState wX6_183 nm_X6_copyState rfl (by rw [hRm]; decide) rfl (Nat.le_of_ble_eq_true rfl) dX6_remember_67 ?_
    refine r_aload_n (pc := 70) dX6_remember_70 rfl rfl ?_
    refine r_dup (pc := 71) dX6_remember_71 rfl ?_
    refine fX6_187 (pc := 72) dX6_remember_72 (gO5 hF) h (fun x8 h => ?_)
    refine r_iconst (pc := 75) (v := 1) dX6_remember_75 (by decide) ?_
    refine r_iadd (pc := 76) dX6_remember_76 ?_
    refine fX6_187p (pc := 77) dX6_remember_77 (gO5 hF) h (fun m9 h => ?_)
    exact r_vretH dX6_remember_80 h he
  · refine r_iconst (pc := 9) (v := 0) dX6_remember_9 (by decide) ?_
    refine r_istore_n (pc := 10) dX6_remember_10 rfl (by rw [hnL]; decide) rfl ?_
    have L27 : ∀ (n25 : Nat) (v28 : Int32) (m29 : gM), fX6_remember_L11 n25 v28 m29 = some o → AW Y cX6_remember RX6 11 [some (.ref 5693), some (.int v28)] [] m29 := by
      intro n25
      induction n25 with
      | zero =>
        intro v28 m29 h
        exact absurd h (by simp [fX6_remember_L11])
      | succ n25 ih26 =>
        intro v28 m29 h
        rw [fX6_remember_L11] at h
        refine r_iload_n (pc := 11) dX6_remember_11 rfl rfl ?_
        refine r_sipush (pc := 12) (v := 3354) dX6_remember_12 (by decide) ?_
        refine r_icmp_ge (pc := 15) (tgt := 40) dX6_remember_15 (by decide) h (fun h => ?_) (fun h => ?_)
        · refine r_aload_n (pc := 40) dX6_remember_40 rfl rfl ?_
          refine r_dup (pc := 41) dX6_remember_41 rfl ?_
          refine fX6_187 (pc := 42) dX6_remember_42 (gO5 hF) h (fun x30 h => ?_)
          refine r_iconst (pc := 45) (v := 1) dX6_remember_45 (by decide) ?_
          refine r_isub (pc := 46) dX6_remember_46 ?_
          refine fX6_187p (pc := 47) dX6_remember_47 (gO5 hF) h (fun m31 h => ?_)
          refine r_aload_n (pc := 50) dX6_remember_50 rfl rfl ?_
          refine fX6_13 (pc := 51) hF dX6_remember_51 (fun b32 => ?_)
          refine r_iconst (pc := 54) (v := 0) dX6_remember_54 (by decide) ?_
          refine r_aload_n (pc := 55) dX6_remember_55 rfl rfl ?_
          refine fX6_19 (pc := 56) hF dX6_remember_56 (fun b33 => ?_)
          refine r_sipush (pc := 59) (v := 258) dX6_remember_59 (by decide) ?_
          refine r_aload_n (pc := 62) dX6_remember_62 rfl rfl ?_
          refine fX6_187 (pc := 63) dX6_remember_63 (gO5 hF) h (fun x34 h => ?_)
          refine r_imul (pc := 66) dX6_remember_66 ?_
          obtain ⟨m35, q37, h⟩ := gCv_some h
          refine r_callS (pc := 67) [.ref _, .int _, .ref _, .int _] (tX6_copyState _ _ _ hF _ _ _ _ _ _ _ _ q37 b32 b33) ⟨rfl, rfl⟩ cd_X6_copyState wX6_183 nm_X6_copyState rfl (by rw [hRm]; decide) rfl (Nat.le_of_ble_eq_true rfl) dX6_remember_67 ?_
          refine r_aload_n (pc := 70) dX6_remember_70 rfl rfl ?_
          refine r_dup (pc := 71) dX6_remember_71 rfl ?_
          refine fX6_187 (pc := 72) dX6_remember_72 (gO5 hF) h (fun x38 h => ?_)
          refine r_iconst (pc := 75) (v := 1) dX6_remember_75 (by decide) ?_
          refine r_iadd (pc := 76) dX6_remember_76 ?_
          refine fX6_187p (pc := 77) dX6_remember_77 (gO5 hF) h (fun m39 h => ?_)
          exact r_vretH dX6_remember_80 h he
        · refine r_aload_n (pc := 18) dX6_remember_18 rfl rfl ?_
          refine fX6_19 (pc := 19) hF dX6_remember_19 (fun b40 => ?_)
          refine r_iload_n (pc := 22) dX6_remember_22 rfl rfl ?_
          refine r_aload_n (pc := 23) dX6_remember_23 rfl rfl ?_
          refine fX6_19 (pc := 24) hF dX6_remember_24 (fun b41 => ?_)
          refine r_iload_n (pc := 27) dX6_remember_27 rfl rfl ?_
          refine r_sipush (pc := 28) (v := 258) dX6_remember_28 (by decide) ?_
          refine r_iadd (pc := 31) dX6_remember_31 ?_
          refine r_iald (pc := 32) dX6_remember_32 b41 h (fun x42 h => ?_)
          refine r_iast (pc := 33) dX6_remember_33 b40 h (fun m43 h => ?_)
          refine r_iinc (pc := 34) (d := 1) dX6_remember_34 rfl (by decide) (by rw [hnL]; decide) h (fun x44 h => ?_)
          refine r_goto (pc := 37) (tgt := 11) dX6_remember_37 (by decide) ?_
          exact r_mask [true, true] rfl (ih26 _ _ h)
    exact r_mask [true, true] rfl (L27 _ _ _ h)
set_option maxHeartbeats 4000000 in
set_option maxRecDepth 100000 in
theorem tX6_customer (l : Launch) (G : gX) (u : gU) (hF : gFull u) (p1 : Int32) (p2 : Int32) (m : gM) (o : gM × Int32) (h : fX6_customer p1 p2 m = some o)  : gMet l G u yX6_customer (.code yX6_customer cX6_customer 3 (some .int)) rmX6_customer [.ref 5693, .int p1, .int p2] m o.1 (some (.int o.2)) := by
  refine gMet_of (own := RX6) (k := 0) (by decide) rfl ⟨rfl, rfl⟩ (Nat.le_of_ble_eq_true rfl) [some (.ref 5693), some (.int p1), some (.int p2)] rfl (fun Y hG hu hnL hLn hRm he => ?_)
  subst hG hu hLn
  unfold fX6_customer at h
  refine r_aload_n (pc := 0) dX6_customer_0 rfl rfl ?_
  refine r_iload_n (pc := 1) dX6_customer_1 rfl rfl ?_
  obtain ⟨m1, x2, q3, h⟩ := gCl_some h
  refine r_callS (pc := 2) [.int _] (tX6_isStreet _ _ _ hF _ _ _ q3) ⟨rfl, rfl⟩ cd_X6_isStreet wX6_205 nm_X6_isStreet rfl (by rw [hRm]; decide) rfl (Nat.le_of_ble_eq_true rfl) dX6_customer_2 ?_
  refine r_jnK h (fun (k6 : Int32 → gM → Option (gM × Int32)) => ∀ (x4 : Int32) (m5 : gM), k6 x4 m5 = some o → AW Y cX6_customer RX6 44 [some (.ref 5693), some (.int p1), some (.int p2)] [.int x4, .ref 5693] m5) (fun x4 m5 h => ?_) (fun k6 hJ7 h => ?_)
  · obtain ⟨m8, x9, q10, h⟩ := gCl_some h
    refine r_callV (kd := 5) (pc := 44) [.int _] (tX6_refused _ _ _ hF _ _ _ q10) ⟨rfl, rfl⟩ cd_X6_refused wX6_108 nm_X6_refused rfl (by rw [hRm]; decide) rfl (Nat.le_of_ble_eq_true rfl) rfl (by decide) (gO5 hF) dX6_customer_44 ?_
    refine r_if_eq (pc := 47) (tgt := 52) dX6_customer_47 (by decide) h (fun h => ?_) (fun h => ?_)
    · refine r_aload_n (pc := 52) dX6_customer_52 rfl rfl ?_
      obtain ⟨m11, q13, h⟩ := gCv_some h
      refine r_callV (kd := 5) (pc := 53) [] (tX6_remember _ _ _ hF  _ _ q13) ⟨rfl, rfl⟩ cd_X6_remember wX6_214 nm_X6_remember rfl (by rw [hRm]; decide) rfl (Nat.le_of_ble_eq_true rfl) rfl (by decide) (gO5 hF) dX6_customer_53 ?_
      refine r_aload_n (pc := 56) dX6_customer_56 rfl rfl ?_
      refine fX6_13 (pc := 57) hF dX6_customer_57 (fun b14 => ?_)
      refine r_iload_n (pc := 60) dX6_customer_60 rfl rfl ?_
      refine r_iload_n (pc := 61) dX6_customer_61 rfl rfl ?_
      obtain ⟨m15, x16, q17, h⟩ := gCl_some h
      refine r_callS (pc := 62) [.ref _, .int _, .int _] (tX6_customerOn _ _ _ hF _ _ _ _ _ _ q17 b14) ⟨rfl, rfl⟩ cd_X6_customerOn wX6_128 nm_X6_customerOn rfl (by rw [hRm]; decide) rfl (Nat.le_of_ble_eq_true rfl) dX6_customer_62 ?_
      exact r_iretH dX6_customer_65 h he
    · refine r_iconst (pc := 50) (v := 0) dX6_customer_50 (by decide) ?_
      exact r_iretH dX6_customer_51 h he
  · refine r_if_ne (pc := 5) (tgt := 12) dX6_customer_5 (by decide) h (fun h => ?_) (fun h => ?_)
    · refine r_iload_n (pc := 12) dX6_customer_12 rfl rfl ?_
      refine r_i2l (pc := 13) dX6_customer_13 ?_
      refine r_lconst (pc := 14) (v := 0) dX6_customer_14 (by decide) ?_
      refine r_ldc2 (pc := 15) (v := 9999999) dX6_customer_15 cX6_212 ?_
      obtain ⟨m18, x19, q20, h⟩ := gCl_some h
      refine r_callS (pc := 18) [.long _, .long _, .long _] (tX6_in _ _ _ hF _ _ _ _ _ q20) ⟨rfl, rfl⟩ cd_X6_in wX6_37 nm_X6_in rfl (by rw [hRm]; decide) rfl (Nat.le_of_ble_eq_true rfl) dX6_customer_18 ?_
      refine r_if_ne (pc := 21) (tgt := 28) dX6_customer_21 (by decide) h (fun h => ?_) (fun h => ?_)
      · refine r_aload_n (pc := 28) dX6_customer_28 rfl rfl ?_
        refine fX6_13 (pc := 29) hF dX6_customer_29 (fun b21 => ?_)
        refine r_iconst (pc := 32) (v := 0) dX6_customer_32 (by decide) ?_
        refine r_iald (pc := 33) dX6_customer_33 b21 h (fun x22 h => ?_)
        refine r_bipush (pc := 34) (v := 10) dX6_customer_34 (by decide) ?_
        refine r_icmp_ge (pc := 36) (tgt := 43) dX6_customer_36 (by decide) h (fun h => ?_) (fun h => ?_)
        · refine r_iconst (pc := 43) (v := 3) dX6_customer_43 (by decide) ?_
          exact r_mask [true, true, true] rfl (hJ7 _ _ h)
        · refine r_iconst (pc := 39) (v := 0) dX6_customer_39 (by decide) ?_
          refine r_goto (pc := 40) (tgt := 44) dX6_customer_40 (by decide) ?_
          exact r_mask [true, true, true] rfl (hJ7 _ _ h)
      · refine r_iconst (pc := 24) (v := 2) dX6_customer_24 (by decide) ?_
        refine r_goto (pc := 25) (tgt := 44) dX6_customer_25 (by decide) ?_
        exact r_mask [true, true, true] rfl (hJ7 _ _ h)
    · refine r_iconst (pc := 8) (v := 1) dX6_customer_8 (by decide) ?_
      refine r_goto (pc := 9) (tgt := 44) dX6_customer_9 (by decide) ?_
      exact r_mask [true, true, true] rfl (hJ7 _ _ h)
set_option maxHeartbeats 4000000 in
set_option maxRecDepth 100000 in
theorem tX6_change (l : Launch) (G : gX) (u : gU) (hF : gFull u) (p1 : Int32) (p2 : Int32) (p3 : Int32) (m : gM) (o : gM × Int32) (h : fX6_change p1 p2 p3 m = some o)  : gMet l G u yX6_change (.code yX6_change cX6_change 4 (some .int)) rmX6_change [.ref 5693, .int p1, .int p2, .int p3] m o.1 (some (.int o.2)) := by
  refine gMet_of (own := RX6) (k := 0) (by decide) rfl ⟨rfl, rfl⟩ (Nat.le_of_ble_eq_true rfl) [some (.ref 5693), some (.int p1), some (.int p2), some (.int p3)] rfl (fun Y hG hu hnL hLn hRm he => ?_)
  subst hG hu hLn
  unfold fX6_change at h
  refine r_aload_n (pc := 0) dX6_change_0 rfl rfl ?_
  refine r_aload_n (pc := 1) dX6_change_1 rfl rfl ?_
  refine fX6_13 (pc := 2) hF dX6_change_2 (fun b1 => ?_)
  refine r_iload_n (pc := 5) dX6_change_5 rfl rfl ?_
  obtain ⟨m2, x3, q4, h⟩ := gCl_some h
  refine r_callS (pc := 6) [.ref _, .int _] (tX6_isCustomer _ _ _ hF _ _ _ _ _ q4 b1) ⟨rfl, rfl⟩ cd_X6_isCustomer wX6_139 nm_X6_isCustomer rfl (by rw [hRm]; decide) rfl (Nat.le_of_ble_eq_true rfl) dX6_change_6 ?_
  refine r_jnK h (fun (k7 : Int32 → gM → Option (gM × Int32)) => ∀ (x5 : Int32) (m6 : gM), k7 x5 m6 = some o → AW Y cX6_change RX6 40 [some (.ref 5693), some (.int p1), some (.int p2), some (.int p3)] [.int x5, .ref 5693] m6) (fun x5 m6 h => ?_) (fun k7 hJ8 h => ?_)
  · obtain ⟨m9, x10, q11, h⟩ := gCl_some h
    refine r_callV (kd := 5) (pc := 40) [.int _] (tX6_refused _ _ _ hF _ _ _ q11) ⟨rfl, rfl⟩ cd_X6_refused wX6_108 nm_X6_refused rfl (by rw [hRm]; decide) rfl (Nat.le_of_ble_eq_true rfl) rfl (by decide) (gO5 hF) dX6_change_40 ?_
    refine r_if_eq (pc := 43) (tgt := 48) dX6_change_43 (by decide) h (fun h => ?_) (fun h => ?_)
    · refine r_aload_n (pc := 48) dX6_change_48 rfl rfl ?_
      obtain ⟨m12, q14, h⟩ := gCv_some h
      refine r_callV (kd := 5) (pc := 49) [] (tX6_remember _ _ _ hF  _ _ q14) ⟨rfl, rfl⟩ cd_X6_remember wX6_214 nm_X6_remember rfl (by rw [hRm]; decide) rfl (Nat.le_of_ble_eq_true rfl) rfl (by decide) (gO5 hF) dX6_change_49 ?_
      refine r_aload_n (pc := 52) dX6_change_52 rfl rfl ?_
      refine fX6_13 (pc := 53) hF dX6_change_53 (fun b15 => ?_)
      refine r_iload_n (pc := 56) dX6_change_56 rfl rfl ?_
      refine r_iload_n (pc := 57) dX6_change_57 rfl rfl ?_
      refine r_iload_n (pc := 58) dX6_change_58 rfl rfl ?_
      obtain ⟨m16, x17, q18, h⟩ := gCl_some h
      refine r_callS (pc := 59) [.ref _, .int _, .int _, .int _] (tX6_changeOn _ _ _ hF _ _ _ _ _ _ _ q18 b15) ⟨rfl, rfl⟩ cd_X6_changeOn wX6_143 nm_X6_changeOn rfl (by rw [hRm]; decide) rfl (Nat.le_of_ble_eq_true rfl) dX6_change_59 ?_
      exact r_iretH dX6_change_62 h he
    · refine r_iconst (pc := 46) (v := 0) dX6_change_46 (by decide) ?_
      exact r_iretH dX6_change_47 h he
  · refine r_if_eq (pc := 9) (tgt := 19) dX6_change_9 (by decide) h (fun h => ?_) (fun h => ?_)
    · refine r_iconst (pc := 19) (v := 1) dX6_change_19 (by decide) ?_
      refine r_goto (pc := 20) (tgt := 40) dX6_change_20 (by decide) ?_
      exact r_mask [true, true, true, true] rfl (hJ8 _ _ h)
    · refine r_iload_n (pc := 12) dX6_change_12 rfl rfl ?_
      obtain ⟨m19, x20, q21, h⟩ := gCl_some h
      refine r_callS (pc := 13) [.int _] (tX6_isWeekday _ _ _ hF _ _ _ q21) ⟨rfl, rfl⟩ cd_X6_isWeekday wX6_200 nm_X6_isWeekday rfl (by rw [hRm]; decide) rfl (Nat.le_of_ble_eq_true rfl) dX6_change_13 ?_
      refine r_if_ne (pc := 16) (tgt := 23) dX6_change_16 (by decide) h (fun h => ?_) (fun h => ?_)
      · refine r_iload_n (pc := 23) dX6_change_23 rfl rfl ?_
        refine r_i2l (pc := 24) dX6_change_24 ?_
        refine r_lconst (pc := 25) (v := 0) dX6_change_25 (by decide) ?_
        refine r_ldc2 (pc := 26) (v := 9) dX6_change_26 cX6_47 ?_
        obtain ⟨m22, x23, q24, h⟩ := gCl_some h
        refine r_callS (pc := 29) [.long _, .long _, .long _] (tX6_in _ _ _ hF _ _ _ _ _ q24) ⟨rfl, rfl⟩ cd_X6_in wX6_37 nm_X6_in rfl (by rw [hRm]; decide) rfl (Nat.le_of_ble_eq_true rfl) dX6_change_29 ?_
        refine r_if_eq (pc := 32) (tgt := 39) dX6_change_32 (by decide) h (fun h => ?_) (fun h => ?_)
        · refine r_iconst (pc := 39) (v := 2) dX6_change_39 (by decide) ?_
          exact r_mask [true, true, true, true] rfl (hJ8 _ _ h)
        · refine r_iconst (pc := 35) (v := 0) dX6_change_35 (by decide) ?_
          refine r_goto (pc := 36) (tgt := 40) dX6_change_36 (by decide) ?_
          exact r_mask [true, true, true, true] rfl (hJ8 _ _ h)
      · refine r_iconst (pc := 19) (v := 1) dX6_change_19 (by decide) ?_
        refine r_goto (pc := 20) (tgt := 40) dX6_change_20 (by decide) ?_
        exact r_mask [true, true, true, true] rfl (hJ8 _ _ h)
set_option maxHeartbeats 4000000 in
set_option maxRecDepth 100000 in
theorem tX6_holiday (l : Launch) (G : gX) (u : gU) (hF : gFull u) (p1 : Int32) (p2 : Int32) (p3 : Int32) (m : gM) (o : gM × Int32) (h : fX6_holiday p1 p2 p3 m = some o)  : gMet l G u yX6_holiday (.code yX6_holiday cX6_holiday 4 (some .int)) rmX6_holiday [.ref 5693, .int p1, .int p2, .int p3] m o.1 (some (.int o.2)) := by
  refine gMet_of (own := RX6) (k := 0) (by decide) rfl ⟨rfl, rfl⟩ (Nat.le_of_ble_eq_true rfl) [some (.ref 5693), some (.int p1), some (.int p2), some (.int p3)] rfl (fun Y hG hu hnL hLn hRm he => ?_)
  subst hG hu hLn
  unfold fX6_holiday at h
  refine r_aload_n (pc := 0) dX6_holiday_0 rfl rfl ?_
  refine r_aload_n (pc := 1) dX6_holiday_1 rfl rfl ?_
  refine fX6_13 (pc := 2) hF dX6_holiday_2 (fun b1 => ?_)
  refine r_iload_n (pc := 5) dX6_holiday_5 rfl rfl ?_
  obtain ⟨m2, x3, q4, h⟩ := gCl_some h
  refine r_callS (pc := 6) [.ref _, .int _] (tX6_isCustomer _ _ _ hF _ _ _ _ _ q4 b1) ⟨rfl, rfl⟩ cd_X6_isCustomer wX6_139 nm_X6_isCustomer rfl (by rw [hRm]; decide) rfl (Nat.le_of_ble_eq_true rfl) dX6_holiday_6 ?_
  refine r_jnK h (fun (k7 : Int32 → gM → Option (gM × Int32)) => ∀ (x5 : Int32) (m6 : gM), k7 x5 m6 = some o → AW Y cX6_holiday RX6 47 [some (.ref 5693), some (.int p1), some (.int p2), some (.int p3)] [.int x5, .ref 5693] m6) (fun x5 m6 h => ?_) (fun k7 hJ8 h => ?_)
  · obtain ⟨m9, x10, q11, h⟩ := gCl_some h
    refine r_callV (kd := 5) (pc := 47) [.int _] (tX6_refused _ _ _ hF _ _ _ q11) ⟨rfl, rfl⟩ cd_X6_refused wX6_108 nm_X6_refused rfl (by rw [hRm]; decide) rfl (Nat.le_of_ble_eq_true rfl) rfl (by decide) (gO5 hF) dX6_holiday_47 ?_
    refine r_if_eq (pc := 50) (tgt := 55) dX6_holiday_50 (by decide) h (fun h => ?_) (fun h => ?_)
    · refine r_aload_n (pc := 55) dX6_holiday_55 rfl rfl ?_
      obtain ⟨m12, q14, h⟩ := gCv_some h
      refine r_callV (kd := 5) (pc := 56) [] (tX6_remember _ _ _ hF  _ _ q14) ⟨rfl, rfl⟩ cd_X6_remember wX6_214 nm_X6_remember rfl (by rw [hRm]; decide) rfl (Nat.le_of_ble_eq_true rfl) rfl (by decide) (gO5 hF) dX6_holiday_56 ?_
      refine r_aload_n (pc := 59) dX6_holiday_59 rfl rfl ?_
      refine fX6_13 (pc := 60) hF dX6_holiday_60 (fun b15 => ?_)
      refine r_iload_n (pc := 63) dX6_holiday_63 rfl rfl ?_
      refine r_iload_n (pc := 64) dX6_holiday_64 rfl rfl ?_
      refine r_iload_n (pc := 65) dX6_holiday_65 rfl rfl ?_
      obtain ⟨m16, x17, q18, h⟩ := gCl_some h
      refine r_callS (pc := 66) [.ref _, .int _, .int _, .int _] (tX6_holidayOn _ _ _ hF _ _ _ _ _ _ _ q18 b15) ⟨rfl, rfl⟩ cd_X6_holidayOn wX6_146 nm_X6_holidayOn rfl (by rw [hRm]; decide) rfl (Nat.le_of_ble_eq_true rfl) dX6_holiday_66 ?_
      exact r_iretH dX6_holiday_69 h he
    · refine r_iconst (pc := 53) (v := 0) dX6_holiday_53 (by decide) ?_
      exact r_iretH dX6_holiday_54 h he
  · refine r_if_ne (pc := 9) (tgt := 16) dX6_holiday_9 (by decide) h (fun h => ?_) (fun h => ?_)
    · refine r_iload_n (pc := 16) dX6_holiday_16 rfl rfl ?_
      refine r_iload_n (pc := 17) dX6_holiday_17 rfl rfl ?_
      obtain ⟨m19, x20, q21, h⟩ := gCl_some h
      refine r_callS (pc := 18) [.int _, .int _] (tX6_isSpan _ _ _ hF _ _ _ _ q21) ⟨rfl, rfl⟩ cd_X6_isSpan wX6_217 nm_X6_isSpan rfl (by rw [hRm]; decide) rfl (Nat.le_of_ble_eq_true rfl) dX6_holiday_18 ?_
      refine r_if_ne (pc := 21) (tgt := 28) dX6_holiday_21 (by decide) h (fun h => ?_) (fun h => ?_)
      · refine r_aload_n (pc := 28) dX6_holiday_28 rfl rfl ?_
        refine fX6_13 (pc := 29) hF dX6_holiday_29 (fun b22 => ?_)
        refine r_iload_n (pc := 32) dX6_holiday_32 rfl rfl ?_
        refine r_bipush (pc := 33) (v := 14) dX6_holiday_33 (by decide) ?_
        obtain ⟨m23, x24, q25, h⟩ := gCl_some h
        refine r_callS (pc := 35) [.ref _, .int _, .int _] (tX6_of _ _ _ hF _ _ _ _ _ _ q25 b22) ⟨rfl, rfl⟩ cd_X6_of wX6_53 nm_X6_of rfl (by rw [hRm]; decide) rfl (Nat.le_of_ble_eq_true rfl) dX6_holiday_35 ?_
        refine r_iconst (pc := 38) (v := 3) dX6_holiday_38 (by decide) ?_
        refine r_icmp_ge (pc := 39) (tgt := 46) dX6_holiday_39 (by decide) h (fun h => ?_) (fun h => ?_)
        · refine r_iconst (pc := 46) (v := 3) dX6_holiday_46 (by decide) ?_
          exact r_mask [true, true, true, true] rfl (hJ8 _ _ h)
        · refine r_iconst (pc := 42) (v := 0) dX6_holiday_42 (by decide) ?_
          refine r_goto (pc := 43) (tgt := 47) dX6_holiday_43 (by decide) ?_
          exact r_mask [true, true, true, true] rfl (hJ8 _ _ h)
      · refine r_iconst (pc := 24) (v := 2) dX6_holiday_24 (by decide) ?_
        refine r_goto (pc := 25) (tgt := 47) dX6_holiday_25 (by decide) ?_
        exact r_mask [true, true, true, true] rfl (hJ8 _ _ h)
    · refine r_iconst (pc := 12) (v := 1) dX6_holiday_12 (by decide) ?_
      refine r_goto (pc := 13) (tgt := 47) dX6_holiday_13 (by decide) ?_
      exact r_mask [true, true, true, true] rfl (hJ8 _ _ h)
set_option maxHeartbeats 4000000 in
set_option maxRecDepth 100000 in
theorem tX6_drop (l : Launch) (G : gX) (u : gU) (hF : gFull u) (p1 : Int32) (p2 : Int32) (m : gM) (o : gM × Int32) (h : fX6_drop p1 p2 m = some o)  : gMet l G u yX6_drop (.code yX6_drop cX6_drop 3 (some .int)) rmX6_drop [.ref 5693, .int p1, .int p2] m o.1 (some (.int o.2)) := by
  refine gMet_of (own := RX6) (k := 0) (by decide) rfl ⟨rfl, rfl⟩ (Nat.le_of_ble_eq_true rfl) [some (.ref 5693), some (.int p1), some (.int p2)] rfl (fun Y hG hu hnL hLn hRm he => ?_)
  subst hG hu hLn
  unfold fX6_drop at h
  refine r_aload_n (pc := 0) dX6_drop_0 rfl rfl ?_
  refine r_aload_n (pc := 1) dX6_drop_1 rfl rfl ?_
  refine fX6_13 (pc := 2) hF dX6_drop_2 (fun b1 => ?_)
  refine r_iload_n (pc := 5) dX6_drop_5 rfl rfl ?_
  obtain ⟨m2, x3, q4, h⟩ := gCl_some h
  refine r_callS (pc := 6) [.ref _, .int _] (tX6_isCustomer _ _ _ hF _ _ _ _ _ q4 b1) ⟨rfl, rfl⟩ cd_X6_isCustomer wX6_139 nm_X6_isCustomer rfl (by rw [hRm]; decide) rfl (Nat.le_of_ble_eq_true rfl) dX6_drop_6 ?_
  refine r_jnK h (fun (k7 : Int32 → gM → Option (gM × Int32)) => ∀ (x5 : Int32) (m6 : gM), k7 x5 m6 = some o → AW Y cX6_drop RX6 39 [some (.ref 5693), some (.int p1), some (.int p2)] [.int x5, .ref 5693] m6) (fun x5 m6 h => ?_) (fun k7 hJ8 h => ?_)
  · obtain ⟨m9, x10, q11, h⟩ := gCl_some h
    refine r_callV (kd := 5) (pc := 39) [.int _] (tX6_refused _ _ _ hF _ _ _ q11) ⟨rfl, rfl⟩ cd_X6_refused wX6_108 nm_X6_refused rfl (by rw [hRm]; decide) rfl (Nat.le_of_ble_eq_true rfl) rfl (by decide) (gO5 hF) dX6_drop_39 ?_
    refine r_if_eq (pc := 42) (tgt := 47) dX6_drop_42 (by decide) h (fun h => ?_) (fun h => ?_)
    · refine r_aload_n (pc := 47) dX6_drop_47 rfl rfl ?_
      obtain ⟨m12, q14, h⟩ := gCv_some h
      refine r_callV (kd := 5) (pc := 48) [] (tX6_remember _ _ _ hF  _ _ q14) ⟨rfl, rfl⟩ cd_X6_remember wX6_214 nm_X6_remember rfl (by rw [hRm]; decide) rfl (Nat.le_of_ble_eq_true rfl) rfl (by decide) (gO5 hF) dX6_drop_48 ?_
      refine r_aload_n (pc := 51) dX6_drop_51 rfl rfl ?_
      refine fX6_13 (pc := 52) hF dX6_drop_52 (fun b15 => ?_)
      refine r_iload_n (pc := 55) dX6_drop_55 rfl rfl ?_
      refine r_iload_n (pc := 56) dX6_drop_56 rfl rfl ?_
      obtain ⟨m16, x17, q18, h⟩ := gCl_some h
      refine r_callS (pc := 57) [.ref _, .int _, .int _] (tX6_dropOn _ _ _ hF _ _ _ _ _ _ q18 b15) ⟨rfl, rfl⟩ cd_X6_dropOn wX6_220 nm_X6_dropOn rfl (by rw [hRm]; decide) rfl (Nat.le_of_ble_eq_true rfl) dX6_drop_57 ?_
      exact r_iretH dX6_drop_60 h he
    · refine r_iconst (pc := 45) (v := 0) dX6_drop_45 (by decide) ?_
      exact r_iretH dX6_drop_46 h he
  · refine r_if_eq (pc := 9) (tgt := 38) dX6_drop_9 (by decide) h (fun h => ?_) (fun h => ?_)
    · refine r_iconst (pc := 38) (v := 1) dX6_drop_38 (by decide) ?_
      exact r_mask [true, true, true] rfl (hJ8 _ _ h)
    · refine r_iload_n (pc := 12) dX6_drop_12 rfl rfl ?_
      refine r_i2l (pc := 13) dX6_drop_13 ?_
      refine r_lconst (pc := 14) (v := 0) dX6_drop_14 (by decide) ?_
      refine r_aload_n (pc := 15) dX6_drop_15 rfl rfl ?_
      refine fX6_13 (pc := 16) hF dX6_drop_16 (fun b19 => ?_)
      refine r_iload_n (pc := 19) dX6_drop_19 rfl rfl ?_
      refine r_bipush (pc := 20) (v := 14) dX6_drop_20 (by decide) ?_
      obtain ⟨m20, x21, q22, h⟩ := gCl_some h
      refine r_callS (pc := 22) [.ref _, .int _, .int _] (tX6_of _ _ _ hF _ _ _ _ _ _ q22 b19) ⟨rfl, rfl⟩ cd_X6_of wX6_53 nm_X6_of rfl (by rw [hRm]; decide) rfl (Nat.le_of_ble_eq_true rfl) dX6_drop_22 ?_
      refine r_iconst (pc := 25) (v := 1) dX6_drop_25 (by decide) ?_
      refine r_isub (pc := 26) dX6_drop_26 ?_
      refine r_i2l (pc := 27) dX6_drop_27 ?_
      obtain ⟨m23, x24, q25, h⟩ := gCl_some h
      refine r_callS (pc := 28) [.long _, .long _, .long _] (tX6_in _ _ _ hF _ _ _ _ _ q25) ⟨rfl, rfl⟩ cd_X6_in wX6_37 nm_X6_in rfl (by rw [hRm]; decide) rfl (Nat.le_of_ble_eq_true rfl) dX6_drop_28 ?_
      refine r_if_eq (pc := 31) (tgt := 38) dX6_drop_31 (by decide) h (fun h => ?_) (fun h => ?_)
      · refine r_iconst (pc := 38) (v := 1) dX6_drop_38 (by decide) ?_
        exact r_mask [true, true, true] rfl (hJ8 _ _ h)
      · refine r_iconst (pc := 34) (v := 0) dX6_drop_34 (by decide) ?_
        refine r_goto (pc := 35) (tgt := 39) dX6_drop_35 (by decide) ?_
        exact r_mask [true, true, true] rfl (hJ8 _ _ h)
set_option maxHeartbeats 4000000 in
set_option maxRecDepth 100000 in
theorem tX6_close (l : Launch) (G : gX) (u : gU) (hF : gFull u) (p1 : Int32) (p2 : Int32) (p3 : Int32) (m : gM) (o : gM × Int32) (h : fX6_close p1 p2 p3 m = some o)  : gMet l G u yX6_close (.code yX6_close cX6_close 4 (some .int)) rmX6_close [.ref 5693, .int p1, .int p2, .int p3] m o.1 (some (.int o.2)) := by
  refine gMet_of (own := RX6) (k := 0) (by decide) rfl ⟨rfl, rfl⟩ (Nat.le_of_ble_eq_true rfl) [some (.ref 5693), some (.int p1), some (.int p2), some (.int p3)] rfl (fun Y hG hu hnL hLn hRm he => ?_)
  subst hG hu hLn
  unfold fX6_close at h
  refine r_aload_n (pc := 0) dX6_close_0 rfl rfl ?_
  refine r_iload_n (pc := 1) dX6_close_1 rfl rfl ?_
  obtain ⟨m1, x2, q3, h⟩ := gCl_some h
  refine r_callS (pc := 2) [.int _] (tX6_isStreet _ _ _ hF _ _ _ q3) ⟨rfl, rfl⟩ cd_X6_isStreet wX6_205 nm_X6_isStreet rfl (by rw [hRm]; decide) rfl (Nat.le_of_ble_eq_true rfl) dX6_close_2 ?_
  refine r_jnK h (fun (k6 : Int32 → gM → Option (gM × Int32)) => ∀ (x4 : Int32) (m5 : gM), k6 x4 m5 = some o → AW Y cX6_close RX6 20 [some (.ref 5693), some (.int p1), some (.int p2), some (.int p3)] [.int x4, .ref 5693] m5) (fun x4 m5 h => ?_) (fun k6 hJ7 h => ?_)
  · obtain ⟨m8, x9, q10, h⟩ := gCl_some h
    refine r_callV (kd := 5) (pc := 20) [.int _] (tX6_refused _ _ _ hF _ _ _ q10) ⟨rfl, rfl⟩ cd_X6_refused wX6_108 nm_X6_refused rfl (by rw [hRm]; decide) rfl (Nat.le_of_ble_eq_true rfl) rfl (by decide) (gO5 hF) dX6_close_20 ?_
    refine r_if_eq (pc := 23) (tgt := 28) dX6_close_23 (by decide) h (fun h => ?_) (fun h => ?_)
    · refine r_aload_n (pc := 28) dX6_close_28 rfl rfl ?_
      obtain ⟨m11, q13, h⟩ := gCv_some h
      refine r_callV (kd := 5) (pc := 29) [] (tX6_remember _ _ _ hF  _ _ q13) ⟨rfl, rfl⟩ cd_X6_remember wX6_214 nm_X6_remember rfl (by rw [hRm]; decide) rfl (Nat.le_of_ble_eq_true rfl) rfl (by decide) (gO5 hF) dX6_close_29 ?_
      refine r_aload_n (pc := 32) dX6_close_32 rfl rfl ?_
      refine fX6_13 (pc := 33) hF dX6_close_33 (fun b14 => ?_)
      refine r_iload_n (pc := 36) dX6_close_36 rfl rfl ?_
      refine r_iload_n (pc := 37) dX6_close_37 rfl rfl ?_
      refine r_iload_n (pc := 38) dX6_close_38 rfl rfl ?_
      obtain ⟨m15, x16, q17, h⟩ := gCl_some h
      refine r_callS (pc := 39) [.ref _, .int _, .int _, .int _] (tX6_closeOn _ _ _ hF _ _ _ _ _ _ _ q17 b14) ⟨rfl, rfl⟩ cd_X6_closeOn wX6_149 nm_X6_closeOn rfl (by rw [hRm]; decide) rfl (Nat.le_of_ble_eq_true rfl) dX6_close_39 ?_
      exact r_iretH dX6_close_42 h he
    · refine r_iconst (pc := 26) (v := 0) dX6_close_26 (by decide) ?_
      exact r_iretH dX6_close_27 h he
  · refine r_if_eq (pc := 5) (tgt := 19) dX6_close_5 (by decide) h (fun h => ?_) (fun h => ?_)
    · refine r_iconst (pc := 19) (v := 1) dX6_close_19 (by decide) ?_
      exact r_mask [true, true, true, true] rfl (hJ7 _ _ h)
    · refine r_iload_n (pc := 8) dX6_close_8 rfl rfl ?_
      obtain ⟨m18, x19, q20, h⟩ := gCl_some h
      refine r_callS (pc := 9) [.int _] (tX6_isWeekday _ _ _ hF _ _ _ q20) ⟨rfl, rfl⟩ cd_X6_isWeekday wX6_200 nm_X6_isWeekday rfl (by rw [hRm]; decide) rfl (Nat.le_of_ble_eq_true rfl) dX6_close_9 ?_
      refine r_if_eq (pc := 12) (tgt := 19) dX6_close_12 (by decide) h (fun h => ?_) (fun h => ?_)
      · refine r_iconst (pc := 19) (v := 1) dX6_close_19 (by decide) ?_
        exact r_mask [true, true, true, true] rfl (hJ7 _ _ h)
      · refine r_iconst (pc := 15) (v := 0) dX6_close_15 (by decide) ?_
        refine r_goto (pc := 16) (tgt := 20) dX6_close_16 (by decide) ?_
        exact r_mask [true, true, true, true] rfl (hJ7 _ _ h)
set_option maxHeartbeats 4000000 in
set_option maxRecDepth 100000 in
theorem tX6_swap (l : Launch) (G : gX) (u : gU) (hF : gFull u) (p1 : Int32) (p2 : Int32) (m : gM) (o : gM × Int32) (h : fX6_swap p1 p2 m = some o)  : gMet l G u yX6_swap (.code yX6_swap cX6_swap 3 (some .int)) rmX6_swap [.ref 5693, .int p1, .int p2] m o.1 (some (.int o.2)) := by
  refine gMet_of (own := RX6) (k := 0) (by decide) rfl ⟨rfl, rfl⟩ (Nat.le_of_ble_eq_true rfl) [some (.ref 5693), some (.int p1), some (.int p2)] rfl (fun Y hG hu hnL hLn hRm he => ?_)
  subst hG hu hLn
  unfold fX6_swap at h
  refine r_aload_n (pc := 0) dX6_swap_0 rfl rfl ?_
  refine r_iload_n (pc := 1) dX6_swap_1 rfl rfl ?_
  obtain ⟨m1, x2, q3, h⟩ := gCl_some h
  refine r_callS (pc := 2) [.int _] (tX6_isStreet _ _ _ hF _ _ _ q3) ⟨rfl, rfl⟩ cd_X6_isStreet wX6_205 nm_X6_isStreet rfl (by rw [hRm]; decide) rfl (Nat.le_of_ble_eq_true rfl) dX6_swap_2 ?_
  refine r_jnK h (fun (k6 : Int32 → gM → Option (gM × Int32)) => ∀ (x4 : Int32) (m5 : gM), k6 x4 m5 = some o → AW Y cX6_swap RX6 20 [some (.ref 5693), some (.int p1), some (.int p2)] [.int x4, .ref 5693] m5) (fun x4 m5 h => ?_) (fun k6 hJ7 h => ?_)
  · obtain ⟨m8, x9, q10, h⟩ := gCl_some h
    refine r_callV (kd := 5) (pc := 20) [.int _] (tX6_refused _ _ _ hF _ _ _ q10) ⟨rfl, rfl⟩ cd_X6_refused wX6_108 nm_X6_refused rfl (by rw [hRm]; decide) rfl (Nat.le_of_ble_eq_true rfl) rfl (by decide) (gO5 hF) dX6_swap_20 ?_
    refine r_if_eq (pc := 23) (tgt := 28) dX6_swap_23 (by decide) h (fun h => ?_) (fun h => ?_)
    · refine r_aload_n (pc := 28) dX6_swap_28 rfl rfl ?_
      obtain ⟨m11, q13, h⟩ := gCv_some h
      refine r_callV (kd := 5) (pc := 29) [] (tX6_remember _ _ _ hF  _ _ q13) ⟨rfl, rfl⟩ cd_X6_remember wX6_214 nm_X6_remember rfl (by rw [hRm]; decide) rfl (Nat.le_of_ble_eq_true rfl) rfl (by decide) (gO5 hF) dX6_swap_29 ?_
      refine r_aload_n (pc := 32) dX6_swap_32 rfl rfl ?_
      refine fX6_13 (pc := 33) hF dX6_swap_33 (fun b14 => ?_)
      refine r_iload_n (pc := 36) dX6_swap_36 rfl rfl ?_
      refine r_iload_n (pc := 37) dX6_swap_37 rfl rfl ?_
      obtain ⟨m15, x16, q17, h⟩ := gCl_some h
      refine r_callS (pc := 38) [.ref _, .int _, .int _] (tX6_swapOn _ _ _ hF _ _ _ _ _ _ q17 b14) ⟨rfl, rfl⟩ cd_X6_swapOn wX6_166 nm_X6_swapOn rfl (by rw [hRm]; decide) rfl (Nat.le_of_ble_eq_true rfl) dX6_swap_38 ?_
      exact r_iretH dX6_swap_41 h he
    · refine r_iconst (pc := 26) (v := 0) dX6_swap_26 (by decide) ?_
      exact r_iretH dX6_swap_27 h he
  · refine r_if_eq (pc := 5) (tgt := 19) dX6_swap_5 (by decide) h (fun h => ?_) (fun h => ?_)
    · refine r_iconst (pc := 19) (v := 1) dX6_swap_19 (by decide) ?_
      exact r_mask [true, true, true] rfl (hJ7 _ _ h)
    · refine r_iload_n (pc := 8) dX6_swap_8 rfl rfl ?_
      obtain ⟨m18, x19, q20, h⟩ := gCl_some h
      refine r_callS (pc := 9) [.int _] (tX6_isStreet _ _ _ hF _ _ _ q20) ⟨rfl, rfl⟩ cd_X6_isStreet wX6_205 nm_X6_isStreet rfl (by rw [hRm]; decide) rfl (Nat.le_of_ble_eq_true rfl) dX6_swap_9 ?_
      refine r_if_eq (pc := 12) (tgt := 19) dX6_swap_12 (by decide) h (fun h => ?_) (fun h => ?_)
      · refine r_iconst (pc := 19) (v := 1) dX6_swap_19 (by decide) ?_
        exact r_mask [true, true, true] rfl (hJ7 _ _ h)
      · refine r_iconst (pc := 15) (v := 0) dX6_swap_15 (by decide) ?_
        refine r_goto (pc := 16) (tgt := 20) dX6_swap_16 (by decide) ?_
        exact r_mask [true, true, true] rfl (hJ7 _ _ h)
set_option maxHeartbeats 4000000 in
set_option maxRecDepth 100000 in
theorem tX6_set (l : Launch) (G : gX) (u : gU) (hF : gFull u) (p1 : Int32) (p2 : Int32) (m : gM) (o : gM × Int32) (h : fX6_set p1 p2 m = some o)  : gMet l G u yX6_set (.code yX6_set cX6_set 3 (some .int)) rmX6_set [.ref 5693, .int p1, .int p2] m o.1 (some (.int o.2)) := by
  refine gMet_of (own := RX6) (k := 0) (by decide) rfl ⟨rfl, rfl⟩ (Nat.le_of_ble_eq_true rfl) [some (.ref 5693), some (.int p1), some (.int p2)] rfl (fun Y hG hu hnL hLn hRm he => ?_)
  subst hG hu hLn
  unfold fX6_set at h
  refine r_aload_n (pc := 0) dX6_set_0 rfl rfl ?_
  refine r_iload_n (pc := 1) dX6_set_1 rfl rfl ?_
  refine r_iload_n (pc := 2) dX6_set_2 rfl rfl ?_
  obtain ⟨m1, x2, q3, h⟩ := gCl_some h
  refine r_callS (pc := 3) [.int _, .int _] (tX6_isSetting _ _ _ hF _ _ _ _ q3) ⟨rfl, rfl⟩ cd_X6_isSetting wX6_169 nm_X6_isSetting rfl (by rw [hRm]; decide) rfl (Nat.le_of_ble_eq_true rfl) dX6_set_3 ?_
  refine r_jn1 h (fun x4 => AW Y cX6_set RX6 14 [some (.ref 5693), some (.int p1), some (.int p2)] [.int x4, .ref 5693] m1) (fun x4 h => ?_) (fun hJ5 => ?_)
  · obtain ⟨m7, x8, q9, h⟩ := gCl_some h
    refine r_callV (kd := 5) (pc := 14) [.int _] (tX6_refused _ _ _ hF _ _ _ q9) ⟨rfl, rfl⟩ cd_X6_refused wX6_108 nm_X6_refused rfl (by rw [hRm]; decide) rfl (Nat.le_of_ble_eq_true rfl) rfl (by decide) (gO5 hF) dX6_set_14 ?_
    refine r_if_eq (pc := 17) (tgt := 22) dX6_set_17 (by decide) h (fun h => ?_) (fun h => ?_)
    · refine r_aload_n (pc := 22) dX6_set_22 rfl rfl ?_
      obtain ⟨m10, q12, h⟩ := gCv_some h
      refine r_callV (kd := 5) (pc := 23) [] (tX6_remember _ _ _ hF  _ _ q12) ⟨rfl, rfl⟩ cd_X6_remember wX6_214 nm_X6_remember rfl (by rw [hRm]; decide) rfl (Nat.le_of_ble_eq_true rfl) rfl (by decide) (gO5 hF) dX6_set_23 ?_
      refine r_aload_n (pc := 26) dX6_set_26 rfl rfl ?_
      refine fX6_13 (pc := 27) hF dX6_set_27 (fun b13 => ?_)
      refine r_bipush (pc := 30) (v := 11) dX6_set_30 (by decide) ?_
      refine r_iload_n (pc := 32) dX6_set_32 rfl rfl ?_
      refine r_iadd (pc := 33) dX6_set_33 ?_
      refine r_iload_n (pc := 34) dX6_set_34 rfl rfl ?_
      obtain ⟨m14, x15, q16, h⟩ := gCl_some h
      refine r_callS (pc := 35) [.ref _, .int _, .int _] (tX6_put _ _ _ hF _ _ _ _ _ _ q16 b13) ⟨rfl, rfl⟩ cd_X6_put wX6_95 nm_X6_put rfl (by rw [hRm]; decide) rfl (Nat.le_of_ble_eq_true rfl) dX6_set_35 ?_
      exact r_iretH dX6_set_38 h he
    · refine r_iconst (pc := 20) (v := 0) dX6_set_20 (by decide) ?_
      exact r_iretH dX6_set_21 h he
  · refine r_ifC_eq (pc := 6) (tgt := 13) dX6_set_6 (by decide) (fun g6 => ?_) (fun g6 => ?_)
    · refine r_iconst (pc := 13) (v := 1) dX6_set_13 (by decide) ?_
      exact r_mask [true, true, true] rfl (hJ5 _ (by rw [if_pos g6]))
    · refine r_iconst (pc := 9) (v := 0) dX6_set_9 (by decide) ?_
      refine r_goto (pc := 10) (tgt := 14) dX6_set_10 (by decide) ?_
      exact r_mask [true, true, true] rfl (hJ5 _ (by rw [if_neg g6]))
set_option maxHeartbeats 4000000 in
set_option maxRecDepth 100000 in
theorem tX6_days (l : Launch) (G : gX) (u : gU) (hF : gFull u) (p1 : Int32) (m : gM) (o : gM × Int32) (h : fX6_days p1 m = some o)  : gMet l G u yX6_days (.code yX6_days cX6_days 2 (some .int)) rmX6_days [.ref 5693, .int p1] m o.1 (some (.int o.2)) := by
  refine gMet_of (own := RX6) (k := 0) (by decide) rfl ⟨rfl, rfl⟩ (Nat.le_of_ble_eq_true rfl) [some (.ref 5693), some (.int p1)] rfl (fun Y hG hu hnL hLn hRm he => ?_)
  subst hG hu hLn
  unfold fX6_days at h
  refine r_aload_n (pc := 0) dX6_days_0 rfl rfl ?_
  refine r_iload_n (pc := 1) dX6_days_1 rfl rfl ?_
  refine r_i2l (pc := 2) dX6_days_2 ?_
  refine r_lconst (pc := 3) (v := 1) dX6_days_3 (by decide) ?_
  refine r_ldc2 (pc := 4) (v := 60) dX6_days_4 cX6_223 ?_
  obtain ⟨m1, x2, q3, h⟩ := gCl_some h
  refine r_callS (pc := 7) [.long _, .long _, .long _] (tX6_in _ _ _ hF _ _ _ _ _ q3) ⟨rfl, rfl⟩ cd_X6_in wX6_37 nm_X6_in rfl (by rw [hRm]; decide) rfl (Nat.le_of_ble_eq_true rfl) dX6_days_7 ?_
  refine r_jn1 h (fun x4 => AW Y cX6_days RX6 18 [some (.ref 5693), some (.int p1)] [.int x4, .ref 5693] m1) (fun x4 h => ?_) (fun hJ5 => ?_)
  · obtain ⟨m7, x8, q9, h⟩ := gCl_some h
    refine r_callV (kd := 5) (pc := 18) [.int _] (tX6_refused _ _ _ hF _ _ _ q9) ⟨rfl, rfl⟩ cd_X6_refused wX6_108 nm_X6_refused rfl (by rw [hRm]; decide) rfl (Nat.le_of_ble_eq_true rfl) rfl (by decide) (gO5 hF) dX6_days_18 ?_
    refine r_if_eq (pc := 21) (tgt := 26) dX6_days_21 (by decide) h (fun h => ?_) (fun h => ?_)
    · refine r_aload_n (pc := 26) dX6_days_26 rfl rfl ?_
      obtain ⟨m10, q12, h⟩ := gCv_some h
      refine r_callV (kd := 5) (pc := 27) [] (tX6_remember _ _ _ hF  _ _ q12) ⟨rfl, rfl⟩ cd_X6_remember wX6_214 nm_X6_remember rfl (by rw [hRm]; decide) rfl (Nat.le_of_ble_eq_true rfl) rfl (by decide) (gO5 hF) dX6_days_27 ?_
      refine r_aload_n (pc := 30) dX6_days_30 rfl rfl ?_
      refine fX6_13 (pc := 31) hF dX6_days_31 (fun b13 => ?_)
      refine r_iload_n (pc := 34) dX6_days_34 rfl rfl ?_
      obtain ⟨m14, x15, q16, h⟩ := gCl_some h
      refine r_callS (pc := 35) [.ref _, .int _] (tX6_daysOn _ _ _ hF _ _ _ _ _ q16 b13) ⟨rfl, rfl⟩ cd_X6_daysOn wX6_173 nm_X6_daysOn rfl (by rw [hRm]; decide) rfl (Nat.le_of_ble_eq_true rfl) dX6_days_35 ?_
      exact r_iretH dX6_days_38 h he
    · refine r_iconst (pc := 24) (v := 0) dX6_days_24 (by decide) ?_
      exact r_iretH dX6_days_25 h he
  · refine r_ifC_eq (pc := 10) (tgt := 17) dX6_days_10 (by decide) (fun g6 => ?_) (fun g6 => ?_)
    · refine r_iconst (pc := 17) (v := 1) dX6_days_17 (by decide) ?_
      exact r_mask [true, true] rfl (hJ5 _ (by rw [if_pos g6]))
    · refine r_iconst (pc := 13) (v := 0) dX6_days_13 (by decide) ?_
      refine r_goto (pc := 14) (tgt := 18) dX6_days_14 (by decide) ?_
      exact r_mask [true, true] rfl (hJ5 _ (by rw [if_neg g6]))
set_option maxHeartbeats 4000000 in
set_option maxRecDepth 100000 in
theorem tX6_undo (l : Launch) (G : gX) (u : gU) (hF : gFull u)  (m : gM) (o : gM × Int32) (h : fX6_undo  m = some o)  : gMet l G u yX6_undo (.code yX6_undo cX6_undo 1 (some .int)) rmX6_undo [.ref 5693] m o.1 (some (.int o.2)) := by
  refine gMet_of (own := RX6) (k := 0) (by decide) rfl ⟨rfl, rfl⟩ (Nat.le_of_ble_eq_true rfl) [some (.ref 5693)] rfl (fun Y hG hu hnL hLn hRm he => ?_)
  subst hG hu hLn
  unfold fX6_undo at h
  refine r_aload_n (pc := 0) dX6_undo_0 rfl rfl ?_
  refine r_aload_n (pc := 1) dX6_undo_1 rfl rfl ?_
  refine fX6_187 (pc := 2) dX6_undo_2 (gO5 hF) h (fun x1 h => ?_)
  refine r_jn1 h (fun x2 => AW Y cX6_undo RX6 13 [some (.ref 5693)] [.int x2, .ref 5693] m) (fun x2 h => ?_) (fun hJ3 => ?_)
  · obtain ⟨m5, x6, q7, h⟩ := gCl_some h
    refine r_callV (kd := 5) (pc := 13) [.int _] (tX6_refused _ _ _ hF _ _ _ q7) ⟨rfl, rfl⟩ cd_X6_refused wX6_108 nm_X6_refused rfl (by rw [hRm]; decide) rfl (Nat.le_of_ble_eq_true rfl) rfl (by decide) (gO5 hF) dX6_undo_13 ?_
    refine r_if_eq (pc := 16) (tgt := 21) dX6_undo_16 (by decide) h (fun h => ?_) (fun h => ?_)
    · refine r_aload_n (pc := 21) dX6_undo_21 rfl rfl ?_
      refine r_dup (pc := 22) dX6_undo_22 rfl ?_
      refine fX6_187 (pc := 23) dX6_undo_23 (gO5 hF) h (fun x8 h => ?_)
      refine r_iconst (pc := 26) (v := 1) dX6_undo_26 (by decide) ?_
      refine r_isub (pc := 27) dX6_undo_27 ?_
      refine fX6_187p (pc := 28) dX6_undo_28 (gO5 hF) h (fun m9 h => ?_)
      refine r_aload_n (pc := 31) dX6_undo_31 rfl rfl ?_
      refine fX6_19 (pc := 32) hF dX6_undo_32 (fun b10 => ?_)
      refine r_sipush (pc := 35) (v := 258) dX6_undo_35 (by decide) ?_
      refine r_aload_n (pc := 38) dX6_undo_38 rfl rfl ?_
      refine fX6_187 (pc := 39) dX6_undo_39 (gO5 hF) h (fun x11 h => ?_)
      refine r_imul (pc := 42) dX6_undo_42 ?_
      refine r_aload_n (pc := 43) dX6_undo_43 rfl rfl ?_
      refine fX6_13 (pc := 44) hF dX6_undo_44 (fun b12 => ?_)
      refine r_iconst (pc := 47) (v := 0) dX6_undo_47 (by decide) ?_
      obtain ⟨m13, q15, h⟩ := gCv_some h
      refine r_callS (pc := 48) [.ref _, .int _, .ref _, .int _] (tX6_copyState _ _ _ hF _ _ _ _ _ _ _ _ q15 b10 b12) ⟨rfl, rfl⟩ cd_X6_copyState wX6_183 nm_X6_copyState rfl (by rw [hRm]; decide) rfl (Nat.le_of_ble_eq_true rfl) dX6_undo_48 ?_
      refine r_aload_n (pc := 51) dX6_undo_51 rfl rfl ?_
      refine fX6_187 (pc := 52) dX6_undo_52 (gO5 hF) h (fun x16 h => ?_)
      exact r_iretH dX6_undo_55 h he
    · refine r_iconst (pc := 19) (v := 0) dX6_undo_19 (by decide) ?_
      exact r_iretH dX6_undo_20 h he
  · refine r_ifC_ne (pc := 5) (tgt := 12) dX6_undo_5 (by decide) (fun g4 => ?_) (fun g4 => ?_)
    · refine r_iconst (pc := 12) (v := 0) dX6_undo_12 (by decide) ?_
      exact r_mask [true] rfl (hJ3 _ (by rw [if_neg g4]))
    · refine r_iconst (pc := 8) (v := 1) dX6_undo_8 (by decide) ?_
      refine r_goto (pc := 9) (tgt := 13) dX6_undo_9 (by decide) ?_
      exact r_mask [true] rfl (hJ3 _ (by rw [if_pos g4]))
set_option maxHeartbeats 4000000 in
set_option maxRecDepth 100000 in
theorem tX6_why (l : Launch) (G : gX) (u : gU) (hF : gFull u) (p1 : Int32) (m : gM) (o : gM × Int32) (h : fX6_why p1 m = some o)  : gMet l G u yX6_why (.code yX6_why cX6_why 2 (some .int)) rmX6_why [.ref 5693, .int p1] m o.1 (some (.int o.2)) := by
  refine gMet_of (own := RX6) (k := 0) (by decide) rfl ⟨rfl, rfl⟩ (Nat.le_of_ble_eq_true rfl) [some (.ref 5693), some (.int p1)] rfl (fun Y hG hu hnL hLn hRm he => ?_)
  subst hG hu hLn
  unfold fX6_why at h
  refine r_aload_n (pc := 0) dX6_why_0 rfl rfl ?_
  refine r_aload_n (pc := 1) dX6_why_1 rfl rfl ?_
  refine fX6_13 (pc := 2) hF dX6_why_2 (fun b1 => ?_)
  refine r_iload_n (pc := 5) dX6_why_5 rfl rfl ?_
  obtain ⟨m2, x3, q4, h⟩ := gCl_some h
  refine r_callS (pc := 6) [.ref _, .int _] (tX6_isCustomer _ _ _ hF _ _ _ _ _ q4 b1) ⟨rfl, rfl⟩ cd_X6_isCustomer wX6_139 nm_X6_isCustomer rfl (by rw [hRm]; decide) rfl (Nat.le_of_ble_eq_true rfl) dX6_why_6 ?_
  refine r_jn1 h (fun x5 => AW Y cX6_why RX6 17 [some (.ref 5693), some (.int p1)] [.int x5, .ref 5693] m2) (fun x5 h => ?_) (fun hJ6 => ?_)
  · obtain ⟨m8, x9, q10, h⟩ := gCl_some h
    refine r_callV (kd := 5) (pc := 17) [.int _] (tX6_refused _ _ _ hF _ _ _ q10) ⟨rfl, rfl⟩ cd_X6_refused wX6_108 nm_X6_refused rfl (by rw [hRm]; decide) rfl (Nat.le_of_ble_eq_true rfl) rfl (by decide) (gO5 hF) dX6_why_17 ?_
    refine r_if_eq (pc := 20) (tgt := 25) dX6_why_20 (by decide) h (fun h => ?_) (fun h => ?_)
    · refine r_aload_n (pc := 25) dX6_why_25 rfl rfl ?_
      refine fX6_13 (pc := 26) hF dX6_why_26 (fun b11 => ?_)
      refine r_iload_n (pc := 29) dX6_why_29 rfl rfl ?_
      obtain ⟨m12, x13, q14, h⟩ := gCl_some h
      refine r_callS (pc := 30) [.ref _, .int _] (tX6_reason _ _ _ hF _ _ _ _ _ q14 b11) ⟨rfl, rfl⟩ cd_X6_reason wX6_225 nm_X6_reason rfl (by rw [hRm]; decide) rfl (Nat.le_of_ble_eq_true rfl) dX6_why_30 ?_
      exact r_iretH dX6_why_33 h he
    · refine r_iconst (pc := 23) (v := 0) dX6_why_23 (by decide) ?_
      exact r_iretH dX6_why_24 h he
  · refine r_ifC_eq (pc := 9) (tgt := 16) dX6_why_9 (by decide) (fun g7 => ?_) (fun g7 => ?_)
    · refine r_iconst (pc := 16) (v := 1) dX6_why_16 (by decide) ?_
      exact r_mask [true, true] rfl (hJ6 _ (by rw [if_pos g7]))
    · refine r_iconst (pc := 12) (v := 0) dX6_why_12 (by decide) ?_
      refine r_goto (pc := 13) (tgt := 17) dX6_why_13 (by decide) ?_
      exact r_mask [true, true] rfl (hJ6 _ (by rw [if_neg g7]))
set_option maxHeartbeats 4000000 in
set_option maxRecDepth 100000 in
theorem tX6_creditIn (l : Launch) (G : gX) (u : gU) (hF : gFull u) (p1 : Int32) (p2 : Int32) (m : gM) (o : gM × Int32) (h : fX6_creditIn p1 p2 m = some o)  : gMet l G u yX6_creditIn (.code yX6_creditIn cX6_creditIn 3 (some .int)) rmX6_creditIn [.ref 5693, .int p1, .int p2] m o.1 (some (.int o.2)) := by
  refine gMet_of (own := RX6) (k := 0) (by decide) rfl ⟨rfl, rfl⟩ (Nat.le_of_ble_eq_true rfl) [some (.ref 5693), some (.int p1), some (.int p2)] rfl (fun Y hG hu hnL hLn hRm he => ?_)
  subst hG hu hLn
  unfold fX6_creditIn at h
  refine r_aload_n (pc := 0) dX6_creditIn_0 rfl rfl ?_
  refine r_aload_n (pc := 1) dX6_creditIn_1 rfl rfl ?_
  refine fX6_13 (pc := 2) hF dX6_creditIn_2 (fun b1 => ?_)
  refine r_iload_n (pc := 5) dX6_creditIn_5 rfl rfl ?_
  obtain ⟨m2, x3, q4, h⟩ := gCl_some h
  refine r_callS (pc := 6) [.ref _, .int _] (tX6_isCustomer _ _ _ hF _ _ _ _ _ q4 b1) ⟨rfl, rfl⟩ cd_X6_isCustomer wX6_139 nm_X6_isCustomer rfl (by rw [hRm]; decide) rfl (Nat.le_of_ble_eq_true rfl) dX6_creditIn_6 ?_
  refine r_jnK h (fun (k7 : Int32 → gM → Option (gM × Int32)) => ∀ (x5 : Int32) (m6 : gM), k7 x5 m6 = some o → AW Y cX6_creditIn RX6 33 [some (.ref 5693), some (.int p1), some (.int p2)] [.int x5, .ref 5693] m6) (fun x5 m6 h => ?_) (fun k7 hJ8 h => ?_)
  · obtain ⟨m9, x10, q11, h⟩ := gCl_some h
    refine r_callV (kd := 5) (pc := 33) [.int _] (tX6_refused _ _ _ hF _ _ _ q11) ⟨rfl, rfl⟩ cd_X6_refused wX6_108 nm_X6_refused rfl (by rw [hRm]; decide) rfl (Nat.le_of_ble_eq_true rfl) rfl (by decide) (gO5 hF) dX6_creditIn_33 ?_
    refine r_if_eq (pc := 36) (tgt := 41) dX6_creditIn_36 (by decide) h (fun h => ?_) (fun h => ?_)
    · refine r_aload_n (pc := 41) dX6_creditIn_41 rfl rfl ?_
      refine fX6_13 (pc := 42) hF dX6_creditIn_42 (fun b12 => ?_)
      refine r_iconst (pc := 45) (v := 0) dX6_creditIn_45 (by decide) ?_
      refine r_aload_n (pc := 46) dX6_creditIn_46 rfl rfl ?_
      refine fX6_16 (pc := 47) hF dX6_creditIn_47 (fun b13 => ?_)
      refine r_iconst (pc := 50) (v := 0) dX6_creditIn_50 (by decide) ?_
      obtain ⟨m14, q16, h⟩ := gCv_some h
      refine r_callS (pc := 51) [.ref _, .int _, .ref _, .int _] (tX6_copyState _ _ _ hF _ _ _ _ _ _ _ _ q16 b12 b13) ⟨rfl, rfl⟩ cd_X6_copyState wX6_183 nm_X6_copyState rfl (by rw [hRm]; decide) rfl (Nat.le_of_ble_eq_true rfl) dX6_creditIn_51 ?_
      refine r_aload_n (pc := 54) dX6_creditIn_54 rfl rfl ?_
      refine fX6_16 (pc := 55) hF dX6_creditIn_55 (fun b17 => ?_)
      refine r_iload_n (pc := 58) dX6_creditIn_58 rfl rfl ?_
      obtain ⟨m18, x19, q20, h⟩ := gCl_some h
      refine r_callS (pc := 59) [.ref _, .int _] (tX6_daysOn _ _ _ hF _ _ _ _ _ q20 b17) ⟨rfl, rfl⟩ cd_X6_daysOn wX6_173 nm_X6_daysOn rfl (by rw [hRm]; decide) rfl (Nat.le_of_ble_eq_true rfl) dX6_creditIn_59 ?_
      refine r_pop (pc := 62) dX6_creditIn_62 rfl ?_
      refine r_aload_n (pc := 63) dX6_creditIn_63 rfl rfl ?_
      refine fX6_16 (pc := 64) hF dX6_creditIn_64 (fun b21 => ?_)
      refine r_iload_n (pc := 67) dX6_creditIn_67 rfl rfl ?_
      refine r_bipush (pc := 68) (v := 8) dX6_creditIn_68 (by decide) ?_
      obtain ⟨m22, x23, q24, h⟩ := gCl_some h
      refine r_callS (pc := 70) [.ref _, .int _, .int _] (tX6_of _ _ _ hF _ _ _ _ _ _ q24 b21) ⟨rfl, rfl⟩ cd_X6_of wX6_53 nm_X6_of rfl (by rw [hRm]; decide) rfl (Nat.le_of_ble_eq_true rfl) dX6_creditIn_70 ?_
      exact r_iretH dX6_creditIn_73 h he
    · refine r_iconst (pc := 39) (v := 0) dX6_creditIn_39 (by decide) ?_
      exact r_iretH dX6_creditIn_40 h he
  · refine r_if_ne (pc := 9) (tgt := 16) dX6_creditIn_9 (by decide) h (fun h => ?_) (fun h => ?_)
    · refine r_iload_n (pc := 16) dX6_creditIn_16 rfl rfl ?_
      refine r_i2l (pc := 17) dX6_creditIn_17 ?_
      refine r_lconst (pc := 18) (v := 0) dX6_creditIn_18 (by decide) ?_
      refine r_ldc2 (pc := 19) (v := 200) dX6_creditIn_19 cX6_228 ?_
      obtain ⟨m25, x26, q27, h⟩ := gCl_some h
      refine r_callS (pc := 22) [.long _, .long _, .long _] (tX6_in _ _ _ hF _ _ _ _ _ q27) ⟨rfl, rfl⟩ cd_X6_in wX6_37 nm_X6_in rfl (by rw [hRm]; decide) rfl (Nat.le_of_ble_eq_true rfl) dX6_creditIn_22 ?_
      refine r_if_eq (pc := 25) (tgt := 32) dX6_creditIn_25 (by decide) h (fun h => ?_) (fun h => ?_)
      · refine r_iconst (pc := 32) (v := 2) dX6_creditIn_32 (by decide) ?_
        exact r_mask [true, true, true] rfl (hJ8 _ _ h)
      · refine r_iconst (pc := 28) (v := 0) dX6_creditIn_28 (by decide) ?_
        refine r_goto (pc := 29) (tgt := 33) dX6_creditIn_29 (by decide) ?_
        exact r_mask [true, true, true] rfl (hJ8 _ _ h)
    · refine r_iconst (pc := 12) (v := 1) dX6_creditIn_12 (by decide) ?_
      refine r_goto (pc := 13) (tgt := 33) dX6_creditIn_13 (by decide) ?_
      exact r_mask [true, true, true] rfl (hJ8 _ _ h)
set_option maxHeartbeats 4000000 in
set_option maxRecDepth 100000 in
theorem tX6_clearIn (l : Launch) (G : gX) (u : gU) (hF : gFull u) (p1 : Int32) (m : gM) (o : gM × Int32) (h : fX6_clearIn p1 m = some o)  : gMet l G u yX6_clearIn (.code yX6_clearIn cX6_clearIn 3 (some .int)) rmX6_clearIn [.ref 5693, .int p1] m o.1 (some (.int o.2)) := by
  refine gMet_of (own := RX6) (k := 1) (by decide) rfl ⟨rfl, rfl⟩ (Nat.le_of_ble_eq_true rfl) [some (.ref 5693), some (.int p1), none] rfl (fun Y hG hu hnL hLn hRm he => ?_)
  subst hG hu hLn
  unfold fX6_clearIn at h
  refine r_aload_n (pc := 0) dX6_clearIn_0 rfl rfl ?_
  refine r_aload_n (pc := 1) dX6_clearIn_1 rfl rfl ?_
  refine fX6_13 (pc := 2) hF dX6_clearIn_2 (fun b1 => ?_)
  refine r_iload_n (pc := 5) dX6_clearIn_5 rfl rfl ?_
  obtain ⟨m2, x3, q4, h⟩ := gCl_some h
  refine r_callS (pc := 6) [.ref _, .int _] (tX6_isCustomer _ _ _ hF _ _ _ _ _ q4 b1) ⟨rfl, rfl⟩ cd_X6_isCustomer wX6_139 nm_X6_isCustomer rfl (by rw [hRm]; decide) rfl (Nat.le_of_ble_eq_true rfl) dX6_clearIn_6 ?_
  refine r_jn1 h (fun x5 => AW Y cX6_clearIn RX6 17 [some (.ref 5693), some (.int p1), none] [.int x5, .ref 5693] m2) (fun x5 h => ?_) (fun hJ6 => ?_)
  · obtain ⟨m8, x9, q10, h⟩ := gCl_some h
    refine r_callV (kd := 5) (pc := 17) [.int _] (tX6_refused _ _ _ hF _ _ _ q10) ⟨rfl, rfl⟩ cd_X6_refused wX6_108 nm_X6_refused rfl (by rw [hRm]; decide) rfl (Nat.le_of_ble_eq_true rfl) rfl (by decide) (gO5 hF) dX6_clearIn_17 ?_
    refine r_if_eq (pc := 20) (tgt := 25) dX6_clearIn_20 (by decide) h (fun h => ?_) (fun h => ?_)
    · refine r_aload_n (pc := 25) dX6_clearIn_25 rfl rfl ?_
      refine fX6_13 (pc := 26) hF dX6_clearIn_26 (fun b11 => ?_)
      refine r_iconst (pc := 29) (v := 0) dX6_clearIn_29 (by decide) ?_
      refine r_aload_n (pc := 30) dX6_clearIn_30 rfl rfl ?_
      refine fX6_16 (pc := 31) hF dX6_clearIn_31 (fun b12 => ?_)
      refine r_iconst (pc := 34) (v := 0) dX6_clearIn_34 (by decide) ?_
      obtain ⟨m13, q15, h⟩ := gCv_some h
      refine r_callS (pc := 35) [.ref _, .int _, .ref _, .int _] (tX6_copyState _ _ _ hF _ _ _ _ _ _ _ _ q15 b11 b12) ⟨rfl, rfl⟩ cd_X6_copyState wX6_183 nm_X6_copyState rfl (by rw [hRm]; decide) rfl (Nat.le_of_ble_eq_true rfl) dX6_clearIn_35 ?_
      refine r_iconst (pc := 38) (v := 0) dX6_clearIn_38 (by decide) ?_
      refine r_istore_n (pc := 39) dX6_clearIn_39 rfl (by rw [hnL]; decide) rfl ?_
      have L27 : ∀ (n25 : Nat) (v28 : Int32) (m29 : gM), fX6_clearIn_L40 p1 n25 v28 m29 = some o → AW Y cX6_clearIn RX6 40 [some (.ref 5693), some (.int p1), some (.int v28)] [] m29 := by
        intro n25
        induction n25 with
        | zero =>
          intro v28 m29 h
          exact absurd h (by simp [fX6_clearIn_L40])
        | succ n25 ih26 =>
          intro v28 m29 h
          rw [fX6_clearIn_L40] at h
          refine r_iload_n (pc := 40) dX6_clearIn_40 rfl rfl ?_
          refine r_sipush (pc := 41) (v := 200) dX6_clearIn_41 (by decide) ?_
          refine r_icmp_gt (pc := 44) (tgt := 75) dX6_clearIn_44 (by decide) h (fun h => ?_) (fun h => ?_)
          · refine r_iconst (pc := 75) (v := (-1)) dX6_clearIn_75 (by decide) ?_
            exact r_iretH dX6_clearIn_76 h he
          · refine r_aload_n (pc := 47) dX6_clearIn_47 rfl rfl ?_
            refine fX6_16 (pc := 48) hF dX6_clearIn_48 (fun b30 => ?_)
            refine r_iload_n (pc := 51) dX6_clearIn_51 rfl rfl ?_
            refine r_bipush (pc := 52) (v := 8) dX6_clearIn_52 (by decide) ?_
            obtain ⟨m31, x32, q33, h⟩ := gCl_some h
            refine r_callS (pc := 54) [.ref _, .int _, .int _] (tX6_of _ _ _ hF _ _ _ _ _ _ q33 b30) ⟨rfl, rfl⟩ cd_X6_of wX6_53 nm_X6_of rfl (by rw [hRm]; decide) rfl (Nat.le_of_ble_eq_true rfl) dX6_clearIn_54 ?_
            refine r_if_ne (pc := 57) (tgt := 62) dX6_clearIn_57 (by decide) h (fun h => ?_) (fun h => ?_)
            · refine r_aload_n (pc := 62) dX6_clearIn_62 rfl rfl ?_
              refine fX6_16 (pc := 63) hF dX6_clearIn_63 (fun b34 => ?_)
              obtain ⟨m35, q37, h⟩ := gCv_some h
              refine r_callS (pc := 66) [.ref _] (tX6_day _ _ _ hF _ _ _ _ q37 b34) ⟨rfl, rfl⟩ cd_X6_day wX6_92 nm_X6_day rfl (by rw [hRm]; decide) rfl (Nat.le_of_ble_eq_true rfl) dX6_clearIn_66 ?_
              refine r_iinc (pc := 69) (d := 1) dX6_clearIn_69 rfl (by decide) (by rw [hnL]; decide) h (fun x38 h => ?_)
              refine r_goto (pc := 72) (tgt := 40) dX6_clearIn_72 (by decide) ?_
              exact r_mask [true, true, true] rfl (ih26 _ _ h)
            · refine r_iload_n (pc := 60) dX6_clearIn_60 rfl rfl ?_
              exact r_iretH dX6_clearIn_61 h he
      exact r_mask [true, true, true] rfl (L27 _ _ _ h)
    · refine r_iconst (pc := 23) (v := 0) dX6_clearIn_23 (by decide) ?_
      exact r_iretH dX6_clearIn_24 h he
  · refine r_ifC_eq (pc := 9) (tgt := 16) dX6_clearIn_9 (by decide) (fun g7 => ?_) (fun g7 => ?_)
    · refine r_iconst (pc := 16) (v := 1) dX6_clearIn_16 (by decide) ?_
      exact r_mask [true, true, false] rfl (hJ6 _ (by rw [if_pos g7]))
    · refine r_iconst (pc := 12) (v := 0) dX6_clearIn_12 (by decide) ?_
      refine r_goto (pc := 13) (tgt := 17) dX6_clearIn_13 (by decide) ?_
      exact r_mask [true, true, false] rfl (hJ6 _ (by rw [if_neg g7]))
set_option maxHeartbeats 4000000 in
set_option maxRecDepth 100000 in
theorem tX6_leastOven (l : Launch) (G : gX) (u : gU) (hF : gFull u) (p1 : Int32) (m : gM) (o : gM × Int32) (h : fX6_leastOven p1 m = some o)  : gMet l G u yX6_leastOven (.code yX6_leastOven cX6_leastOven 6 (some .int)) rmX6_leastOven [.ref 5693, .int p1] m o.1 (some (.int o.2)) := by
  refine gMet_of (own := RX6) (k := 4) (by decide) rfl ⟨rfl, rfl⟩ (Nat.le_of_ble_eq_true rfl) [some (.ref 5693), some (.int p1), none, none, none, none] rfl (fun Y hG hu hnL hLn hRm he => ?_)
  subst hG hu hLn
  unfold fX6_leastOven at h
  refine r_aload_n (pc := 0) dX6_leastOven_0 rfl rfl ?_
  refine r_iload_n (pc := 1) dX6_leastOven_1 rfl rfl ?_
  refine r_i2l (pc := 2) dX6_leastOven_2 ?_
  refine r_lconst (pc := 3) (v := 1) dX6_leastOven_3 (by decide) ?_
  refine r_ldc2 (pc := 4) (v := 60) dX6_leastOven_4 cX6_223 ?_
  obtain ⟨m1, x2, q3, h⟩ := gCl_some h
  refine r_callS (pc := 7) [.long _, .long _, .long _] (tX6_in _ _ _ hF _ _ _ _ _ q3) ⟨rfl, rfl⟩ cd_X6_in wX6_37 nm_X6_in rfl (by rw [hRm]; decide) rfl (Nat.le_of_ble_eq_true rfl) dX6_leastOven_7 ?_
  refine r_jn1 h (fun x4 => AW Y cX6_leastOven RX6 18 [some (.ref 5693), some (.int p1), none, none, none, none] [.int x4, .ref 5693] m1) (fun x4 h => ?_) (fun hJ5 => ?_)
  · obtain ⟨m7, x8, q9, h⟩ := gCl_some h
    refine r_callV (kd := 5) (pc := 18) [.int _] (tX6_refused _ _ _ hF _ _ _ q9) ⟨rfl, rfl⟩ cd_X6_refused wX6_108 nm_X6_refused rfl (by rw [hRm]; decide) rfl (Nat.le_of_ble_eq_true rfl) rfl (by decide) (gO5 hF) dX6_leastOven_18 ?_
    refine r_if_eq (pc := 21) (tgt := 26) dX6_leastOven_21 (by decide) h (fun h => ?_) (fun h => ?_)
    · refine r_iconst (pc := 26) (v := 0) dX6_leastOven_26 (by decide) ?_
      refine r_istore_n (pc := 27) dX6_leastOven_27 rfl (by rw [hnL]; decide) rfl ?_
      refine r_aload_n (pc := 28) dX6_leastOven_28 rfl rfl ?_
      refine fX6_13 (pc := 29) hF dX6_leastOven_29 (fun b10 => ?_)
      refine r_iconst (pc := 32) (v := 1) dX6_leastOven_32 (by decide) ?_
      refine r_iald (pc := 33) dX6_leastOven_33 b10 h (fun x11 h => ?_)
      refine r_istore_n (pc := 34) dX6_leastOven_34 rfl (by rw [hnL]; decide) rfl ?_
      have L62 : ∀ (n60 : Nat) (v63 : Int32) (v64 : Int32) (m65 : gM), fX6_leastOven_L35 p1 n60 v63 v64 m65 = some o → AW Y cX6_leastOven RX6 35 [some (.ref 5693), some (.int p1), some (.int v63), some (.int v64), none, none] [] m65 := by
        intro n60
        induction n60 with
        | zero =>
          intro v63 v64 m65 h
          exact absurd h (by simp [fX6_leastOven_L35])
        | succ n60 ih61 =>
          intro v63 v64 m65 h
          rw [fX6_leastOven_L35] at h
          refine r_iload_n (pc := 35) dX6_leastOven_35 rfl rfl ?_
          refine r_aload_n (pc := 36) dX6_leastOven_36 rfl rfl ?_
          refine fX6_13 (pc := 37) hF dX6_leastOven_37 (fun b66 => ?_)
          refine r_iconst (pc := 40) (v := 1) dX6_leastOven_40 (by decide) ?_
          refine r_iald (pc := 41) dX6_leastOven_41 b66 h (fun x67 h => ?_)
          refine r_iload_n (pc := 42) dX6_leastOven_42 rfl rfl ?_
          refine r_iadd (pc := 43) dX6_leastOven_43 ?_
          refine r_icmp_ge (pc := 44) (tgt := 121) dX6_leastOven_44 (by decide) h (fun h => ?_) (fun h => ?_)
          · refine r_iload_n (pc := 121) dX6_leastOven_121 rfl rfl ?_
            exact r_iretH dX6_leastOven_122 h he
          · refine r_iconst (pc := 47) (v := 0) dX6_leastOven_47 (by decide) ?_
            refine r_istore (pc := 48) dX6_leastOven_48 (by rw [hnL]; decide) rfl ?_
            refine r_iconst (pc := 50) (v := 0) dX6_leastOven_50 (by decide) ?_
            refine r_istore (pc := 51) dX6_leastOven_51 (by rw [hnL]; decide) rfl ?_
            have L70 : ∀ (n68 : Nat) (v71 : Int32) (v72 : Int32) (m73 : gM), fX6_leastOven_L53 p1 v63 v64 (fX6_leastOven_L35 p1 n60) n68 v71 v72 m73 = some o → AW Y cX6_leastOven RX6 53 [some (.ref 5693), some (.int p1), some (.int v63), some (.int v64), some (.int v71), some (.int v72)] [] m73 := by
              intro n68
              induction n68 with
              | zero =>
                intro v71 v72 m73 h
                exact absurd h (by simp [fX6_leastOven_L53])
              | succ n68 ih69 =>
                intro v71 v72 m73 h
                rw [fX6_leastOven_L53] at h
                refine r_iload (pc := 53) dX6_leastOven_53 rfl ?_
                refine r_aload_n (pc := 55) dX6_leastOven_55 rfl rfl ?_
                refine fX6_13 (pc := 56) hF dX6_leastOven_56 (fun b74 => ?_)
                refine r_iconst (pc := 59) (v := 0) dX6_leastOven_59 (by decide) ?_
                refine r_iald (pc := 60) dX6_leastOven_60 b74 h (fun x75 h => ?_)
                refine r_icmp_ge (pc := 61) (tgt := 102) dX6_leastOven_61 (by decide) h (fun h => ?_) (fun h => ?_)
                · refine r_iload (pc := 102) dX6_leastOven_102 rfl ?_
                  refine r_iload_n (pc := 104) dX6_leastOven_104 rfl rfl ?_
                  refine r_jn1 h (fun x76 => AW Y cX6_leastOven RX6 114 [some (.ref 5693), some (.int p1), none, some (.int v64), none, none] [.int x76] m73) (fun x76 h => ?_) (fun hJ77 => ?_)
                  · refine r_istore_n (pc := 114) dX6_leastOven_114 rfl (by rw [hnL]; decide) rfl ?_
                    refine r_iinc (pc := 115) (d := 1) dX6_leastOven_115 rfl (by decide) (by rw [hnL]; decide) h (fun x79 h => ?_)
                    refine r_goto (pc := 118) (tgt := 35) dX6_leastOven_118 (by decide) ?_
                    exact r_mask [true, true, true, true, false, false] rfl (ih61 _ _ _ h)
                  · refine r_icmpC_le (pc := 105) (tgt := 113) dX6_leastOven_105 (by decide) (fun g78 => ?_) (fun g78 => ?_)
                    · refine r_iload_n (pc := 113) dX6_leastOven_113 rfl rfl ?_
                      exact r_mask [true, true, false, true, false, false] rfl (hJ77 _ (by rw [if_pos g78]))
                    · refine r_iload (pc := 108) dX6_leastOven_108 rfl ?_
                      refine r_goto (pc := 110) (tgt := 114) dX6_leastOven_110 (by decide) ?_
                      exact r_mask [true, true, false, true, false, false] rfl (hJ77 _ (by rw [if_neg g78]))
                · refine r_iload (pc := 64) dX6_leastOven_64 rfl ?_
                  refine r_aload_n (pc := 66) dX6_leastOven_66 rfl rfl ?_
                  refine fX6_13 (pc := 67) hF dX6_leastOven_67 (fun b80 => ?_)
                  refine r_iload (pc := 70) dX6_leastOven_70 rfl ?_
                  refine r_iload_n (pc := 72) dX6_leastOven_72 rfl rfl ?_
                  obtain ⟨m81, x82, q83, h⟩ := gCl_some h
                  refine r_callS (pc := 73) [.ref _, .int _, .int _] (tX6_isOpen _ _ _ hF _ _ _ _ _ _ q83 b80) ⟨rfl, rfl⟩ cd_X6_isOpen wX6_68 nm_X6_isOpen rfl (by rw [hRm]; decide) rfl (Nat.le_of_ble_eq_true rfl) dX6_leastOven_73 ?_
                  refine r_jnK h (fun (k86 : Int32 → gM → Option (gM × Int32)) => ∀ (x84 : Int32) (m85 : gM), k86 x84 m85 = some o → AW Y cX6_leastOven RX6 93 [some (.ref 5693), some (.int p1), some (.int v63), some (.int v64), none, some (.int v72)] [.int x84, .int v71] m85) (fun x84 m85 h => ?_) (fun k86 hJ87 h => ?_)
                  · refine r_iadd (pc := 93) dX6_leastOven_93 ?_
                    refine r_istoreL (pc := 94) dX6_leastOven_94 (by rw [hnL]; decide) h (fun x88 h => ?_)
                    refine r_iinc (pc := 96) (d := 1) dX6_leastOven_96 rfl (by decide) (by rw [hnL]; decide) h (fun x89 h => ?_)
                    refine r_goto (pc := 99) (tgt := 53) dX6_leastOven_99 (by decide) ?_
                    exact r_mask [true, true, true, true, true, true] rfl (ih69 _ _ _ h)
                  · refine r_if_eq (pc := 76) (tgt := 92) dX6_leastOven_76 (by decide) h (fun h => ?_) (fun h => ?_)
                    · refine r_iconst (pc := 92) (v := 0) dX6_leastOven_92 (by decide) ?_
                      exact r_mask [true, true, true, true, false, true] rfl (hJ87 _ _ h)
                    · refine r_aload_n (pc := 79) dX6_leastOven_79 rfl rfl ?_
                      refine fX6_13 (pc := 80) hF dX6_leastOven_80 (fun b90 => ?_)
                      refine r_iload (pc := 83) dX6_leastOven_83 rfl ?_
                      refine r_iload_n (pc := 85) dX6_leastOven_85 rfl rfl ?_
                      obtain ⟨m91, x92, q93, h⟩ := gCl_some h
                      refine r_callS (pc := 86) [.ref _, .int _, .int _] (tX6_dueOn _ _ _ hF _ _ _ _ _ _ q93 b90) ⟨rfl, rfl⟩ cd_X6_dueOn wX6_61 nm_X6_dueOn rfl (by rw [hRm]; decide) rfl (Nat.le_of_ble_eq_true rfl) dX6_leastOven_86 ?_
                      refine r_goto (pc := 89) (tgt := 93) dX6_leastOven_89 (by decide) ?_
                      exact r_mask [true, true, true, true, false, true] rfl (hJ87 _ _ h)
            exact r_mask [true, true, true, true, true, true] rfl (L70 _ _ _ _ h)
      exact r_mask [true, true, true, true, false, false] rfl (L62 _ _ _ _ h)
    · refine r_iconst (pc := 24) (v := 0) dX6_leastOven_24 (by decide) ?_
      exact r_iretH dX6_leastOven_25 h he
  · refine r_ifC_eq (pc := 10) (tgt := 17) dX6_leastOven_10 (by decide) (fun g6 => ?_) (fun g6 => ?_)
    · refine r_iconst (pc := 17) (v := 1) dX6_leastOven_17 (by decide) ?_
      exact r_mask [true, true, false, false, false, false] rfl (hJ5 _ (by rw [if_pos g6]))
    · refine r_iconst (pc := 13) (v := 0) dX6_leastOven_13 (by decide) ?_
      refine r_goto (pc := 14) (tgt := 18) dX6_leastOven_14 (by decide) ?_
      exact r_mask [true, true, false, false, false, false] rfl (hJ5 _ (by rw [if_neg g6]))
set_option maxHeartbeats 4000000 in
set_option maxRecDepth 100000 in
theorem tX6_isOrder (l : Launch) (G : gX) (u : gU) (hF : gFull u) (p1 : Int32) (m : gM) (o : gM × Int32) (h : fX6_isOrder p1 m = some o)  : gMet l G u yX6_isOrder (.code yX6_isOrder cX6_isOrder 4 (some .boolean)) rmX6_isOrder [.int p1] m o.1 (some (.int o.2)) := by
  refine gMet_of (own := RX6) (k := 3) (by decide) rfl ⟨rfl, rfl⟩ (Nat.le_of_ble_eq_true rfl) [some (.int p1), none, none, none] rfl (fun Y hG hu hnL hLn hRm he => ?_)
  subst hG hu hLn
  unfold fX6_isOrder at h
  refine r_iconst (pc := 0) (v := 0) dX6_isOrder_0 (by decide) ?_
  refine r_istore_n (pc := 1) dX6_isOrder_1 rfl (by rw [hnL]; decide) rfl ?_
  refine r_iload_n (pc := 2) dX6_isOrder_2 rfl rfl ?_
  refine r_istore_n (pc := 3) dX6_isOrder_3 rfl (by rw [hnL]; decide) rfl ?_
  refine r_iconst (pc := 4) (v := 0) dX6_isOrder_4 (by decide) ?_
  refine r_istore_n (pc := 5) dX6_isOrder_5 rfl (by rw [hnL]; decide) rfl ?_
  have L9 : ∀ (n7 : Nat) (v10 : Int32) (v11 : Int32) (v12 : Int32) (m13 : gM), fX6_isOrder_L6 n7 v10 v11 v12 m13 = some o → AW Y cX6_isOrder RX6 6 [none, some (.int v10), some (.int v11), some (.int v12)] [] m13 := by
    intro n7
    induction n7 with
    | zero =>
      intro v10 v11 v12 m13 h
      exact absurd h (by simp [fX6_isOrder_L6])
    | succ n7 ih8 =>
      intro v10 v11 v12 m13 h
      rw [fX6_isOrder_L6] at h
      refine r_iload_n (pc := 6) dX6_isOrder_6 rfl rfl ?_
      refine r_iconst (pc := 7) (v := 4) dX6_isOrder_7 (by decide) ?_
      refine r_icmp_ge (pc := 8) (tgt := 43) dX6_isOrder_8 (by decide) h (fun h => ?_) (fun h => ?_)
      · refine r_iload_n (pc := 43) dX6_isOrder_43 rfl rfl ?_
        refine r_bipush (pc := 44) (v := 15) dX6_isOrder_44 (by decide) ?_
        refine r_icmp_ne (pc := 46) (tgt := 53) dX6_isOrder_46 (by decide) h (fun h => ?_) (fun h => ?_)
        · refine r_iconst (pc := 53) (v := 0) dX6_isOrder_53 (by decide) ?_
          exact r_zretH dX6_isOrder_54 rfl h he
        · refine r_iconst (pc := 49) (v := 1) dX6_isOrder_49 (by decide) ?_
          refine r_goto (pc := 50) (tgt := 54) dX6_isOrder_50 (by decide) ?_
          exact r_zretH dX6_isOrder_54 rfl h he
      · refine r_iload_n (pc := 11) dX6_isOrder_11 rfl rfl ?_
        refine r_iload_n (pc := 12) dX6_isOrder_12 rfl rfl ?_
        refine r_bipush (pc := 13) (v := 10) dX6_isOrder_13 (by decide) ?_
        refine r_iremc (pc := 15) dX6_isOrder_15 (by decide) ?_
        refine r_iconst (pc := 16) (v := 4) dX6_isOrder_16 (by decide) ?_
        refine r_jn1 h (fun x14 => AW Y cX6_isOrder RX6 30 [none, none, some (.int v11), some (.int v12)] [.int x14, .int v10] m13) (fun x14 h => ?_) (fun hJ15 => ?_)
        · refine r_ior (pc := 30) dX6_isOrder_30 ?_
          refine r_istore_nL (pc := 31) dX6_isOrder_31 rfl (by rw [hnL]; decide) h (fun x17 h => ?_)
          refine r_iload_n (pc := 32) dX6_isOrder_32 rfl rfl ?_
          refine r_bipush (pc := 33) (v := 10) dX6_isOrder_33 (by decide) ?_
          refine r_idivc (pc := 35) dX6_isOrder_35 (by decide) ?_
          refine r_istore_nL (pc := 36) dX6_isOrder_36 rfl (by rw [hnL]; decide) h (fun x18 h => ?_)
          refine r_iinc (pc := 37) (d := 1) dX6_isOrder_37 rfl (by decide) (by rw [hnL]; decide) h (fun x19 h => ?_)
          refine r_goto (pc := 40) (tgt := 6) dX6_isOrder_40 (by decide) ?_
          exact r_mask [false, true, true, true] rfl (ih8 _ _ _ _ h)
        · refine r_icmpC_ge (pc := 17) (tgt := 29) dX6_isOrder_17 (by decide) (fun g16 => ?_) (fun g16 => ?_)
          · refine r_iconst (pc := 29) (v := 0) dX6_isOrder_29 (by decide) ?_
            exact r_mask [false, false, true, true] rfl (hJ15 _ (by rw [if_pos g16]))
          · refine r_iconst (pc := 20) (v := 1) dX6_isOrder_20 (by decide) ?_
            refine r_iload_n (pc := 21) dX6_isOrder_21 rfl rfl ?_
            refine r_bipush (pc := 22) (v := 10) dX6_isOrder_22 (by decide) ?_
            refine r_iremc (pc := 24) dX6_isOrder_24 (by decide) ?_
            refine r_ishl (pc := 25) dX6_isOrder_25 rfl ?_
            refine r_goto (pc := 26) (tgt := 30) dX6_isOrder_26 (by decide) ?_
            exact r_mask [false, false, true, true] rfl (hJ15 _ (by rw [if_neg g16]))
  exact r_mask [false, true, true, true] rfl (L9 _ _ _ _ _ h)
set_option maxHeartbeats 4000000 in
set_option maxRecDepth 100000 in
theorem tX6_bestRound (l : Launch) (G : gX) (u : gU) (hF : gFull u) (p1 : Int32) (m : gM) (o : gM × Int32) (h : fX6_bestRound p1 m = some o)  : gMet l G u yX6_bestRound (.code yX6_bestRound cX6_bestRound 6 (some .int)) rmX6_bestRound [.ref 5693, .int p1] m o.1 (some (.int o.2)) := by
  refine gMet_of (own := RX6) (k := 4) (by decide) rfl ⟨rfl, rfl⟩ (Nat.le_of_ble_eq_true rfl) [some (.ref 5693), some (.int p1), none, none, none, none] rfl (fun Y hG hu hnL hLn hRm he => ?_)
  subst hG hu hLn
  unfold fX6_bestRound at h
  refine r_aload_n (pc := 0) dX6_bestRound_0 rfl rfl ?_
  refine r_iload_n (pc := 1) dX6_bestRound_1 rfl rfl ?_
  refine r_i2l (pc := 2) dX6_bestRound_2 ?_
  refine r_lconst (pc := 3) (v := 1) dX6_bestRound_3 (by decide) ?_
  refine r_ldc2 (pc := 4) (v := 30) dX6_bestRound_4 cX6_49 ?_
  obtain ⟨m1, x2, q3, h⟩ := gCl_some h
  refine r_callS (pc := 7) [.long _, .long _, .long _] (tX6_in _ _ _ hF _ _ _ _ _ q3) ⟨rfl, rfl⟩ cd_X6_in wX6_37 nm_X6_in rfl (by rw [hRm]; decide) rfl (Nat.le_of_ble_eq_true rfl) dX6_bestRound_7 ?_
  refine r_jn1 h (fun x4 => AW Y cX6_bestRound RX6 18 [some (.ref 5693), some (.int p1), none, none, none, none] [.int x4, .ref 5693] m1) (fun x4 h => ?_) (fun hJ5 => ?_)
  · obtain ⟨m7, x8, q9, h⟩ := gCl_some h
    refine r_callV (kd := 5) (pc := 18) [.int _] (tX6_refused _ _ _ hF _ _ _ q9) ⟨rfl, rfl⟩ cd_X6_refused wX6_108 nm_X6_refused rfl (by rw [hRm]; decide) rfl (Nat.le_of_ble_eq_true rfl) rfl (by decide) (gO5 hF) dX6_bestRound_18 ?_
    refine r_if_eq (pc := 21) (tgt := 26) dX6_bestRound_21 (by decide) h (fun h => ?_) (fun h => ?_)
    · refine r_iconst (pc := 26) (v := (-1)) dX6_bestRound_26 (by decide) ?_
      refine r_istore_n (pc := 27) dX6_bestRound_27 rfl (by rw [hnL]; decide) rfl ?_
      refine r_iconst (pc := 28) (v := 0) dX6_bestRound_28 (by decide) ?_
      refine r_istore_n (pc := 29) dX6_bestRound_29 rfl (by rw [hnL]; decide) rfl ?_
      refine r_bipush (pc := 30) (v := 123) dX6_bestRound_30 (by decide) ?_
      refine r_istore (pc := 32) dX6_bestRound_32 (by rw [hnL]; decide) rfl ?_
      have L57 : ∀ (n55 : Nat) (v58 : Int32) (v59 : Int32) (v60 : Int32) (m61 : gM), fX6_bestRound_L34 p1 n55 v58 v59 v60 m61 = some o → AW Y cX6_bestRound RX6 34 [some (.ref 5693), some (.int p1), some (.int v58), some (.int v59), some (.int v60), none] [] m61 := by
        intro n55
        induction n55 with
        | zero =>
          intro v58 v59 v60 m61 h
          exact absurd h (by simp [fX6_bestRound_L34])
        | succ n55 ih56 =>
          intro v58 v59 v60 m61 h
          rw [fX6_bestRound_L34] at h
          refine r_iload (pc := 34) dX6_bestRound_34 rfl ?_
          refine r_sipush (pc := 36) (v := 3210) dX6_bestRound_36 (by decide) ?_
          refine r_icmp_gt (pc := 39) (tgt := 185) dX6_bestRound_39 (by decide) h (fun h => ?_) (fun h => ?_)
          · refine r_iload_n (pc := 185) dX6_bestRound_185 rfl rfl ?_
            exact r_iretH dX6_bestRound_186 h he
          · refine r_iload (pc := 42) dX6_bestRound_42 rfl ?_
            obtain ⟨m62, x63, q64, h⟩ := gCl_some h
            refine r_callS (pc := 44) [.int _] (tX6_isOrder _ _ _ hF _ _ _ q64) ⟨rfl, rfl⟩ cd_X6_isOrder wX6_230 nm_X6_isOrder rfl (by rw [hRm]; decide) rfl (Nat.le_of_ble_eq_true rfl) dX6_bestRound_44 ?_
            refine r_jnK h (fun (k68 : Int32 → Int32 → gM → Option (gM × Int32)) => ∀ (x65 : Int32) (x66 : Int32) (m67 : gM), k68 x65 x66 m67 = some o → AW Y cX6_bestRound RX6 179 [some (.ref 5693), some (.int p1), some (.int x65), some (.int x66), some (.int v60), none] [] m67) (fun x65 x66 m67 h => ?_) (fun k68 hJ69 h => ?_)
            · refine r_iinc (pc := 179) (d := 1) dX6_bestRound_179 rfl (by decide) (by rw [hnL]; decide) h (fun x70 h => ?_)
              refine r_goto (pc := 182) (tgt := 34) dX6_bestRound_182 (by decide) ?_
              exact r_mask [true, true, true, true, true, false] rfl (ih56 _ _ _ _ h)
            · refine r_if_eq (pc := 47) (tgt := 179) dX6_bestRound_47 (by decide) h (fun h => ?_) (fun h => ?_)
              · exact r_mask [true, true, true, true, true, false] rfl (hJ69 _ _ _ h)
              · refine r_aload_n (pc := 50) dX6_bestRound_50 rfl rfl ?_
                refine fX6_13 (pc := 51) hF dX6_bestRound_51 (fun b71 => ?_)
                refine r_iconst (pc := 54) (v := 0) dX6_bestRound_54 (by decide) ?_
                refine r_aload_n (pc := 55) dX6_bestRound_55 rfl rfl ?_
                refine fX6_16 (pc := 56) hF dX6_bestRound_56 (fun b72 => ?_)
                refine r_iconst (pc := 59) (v := 0) dX6_bestRound_59 (by decide) ?_
                obtain ⟨m73, q75, h⟩ := gCv_some h
                refine r_callS (pc := 60) [.ref _, .int _, .ref _, .int _] (tX6_copyState _ _ _ hF _ _ _ _ _ _ _ _ q75 b71 b72) ⟨rfl, rfl⟩ cd_X6_copyState wX6_183 nm_X6_copyState rfl (by rw [hRm]; decide) rfl (Nat.le_of_ble_eq_true rfl) dX6_bestRound_60 ?_
                refine r_aload_n (pc := 63) dX6_bestRound_63 rfl rfl ?_
                refine fX6_16 (pc := 64) hF dX6_bestRound_64 (fun b76 => ?_)
                refine r_bipush (pc := 67) (v := 16) dX6_bestRound_67 (by decide) ?_
                refine r_iload (pc := 69) dX6_bestRound_69 rfl ?_
                refine r_sipush (pc := 71) (v := 1000) dX6_bestRound_71 (by decide) ?_
                refine r_idivc (pc := 74) dX6_bestRound_74 (by decide) ?_
                refine r_iast (pc := 75) dX6_bestRound_75 b76 h (fun m77 h => ?_)
                refine r_aload_n (pc := 76) dX6_bestRound_76 rfl rfl ?_
                refine fX6_16 (pc := 77) hF dX6_bestRound_77 (fun b78 => ?_)
                refine r_bipush (pc := 80) (v := 17) dX6_bestRound_80 (by decide) ?_
                refine r_iload (pc := 82) dX6_bestRound_82 rfl ?_
                refine r_bipush (pc := 84) (v := 100) dX6_bestRound_84 (by decide) ?_
                refine r_idivc (pc := 86) dX6_bestRound_86 (by decide) ?_
                refine r_bipush (pc := 87) (v := 10) dX6_bestRound_87 (by decide) ?_
                refine r_iremc (pc := 89) dX6_bestRound_89 (by decide) ?_
                refine r_iast (pc := 90) dX6_bestRound_90 b78 h (fun m79 h => ?_)
                refine r_aload_n (pc := 91) dX6_bestRound_91 rfl rfl ?_
                refine fX6_16 (pc := 92) hF dX6_bestRound_92 (fun b80 => ?_)
                refine r_bipush (pc := 95) (v := 18) dX6_bestRound_95 (by decide) ?_
                refine r_iload (pc := 97) dX6_bestRound_97 rfl ?_
                refine r_bipush (pc := 99) (v := 10) dX6_bestRound_99 (by decide) ?_
                refine r_idivc (pc := 101) dX6_bestRound_101 (by decide) ?_
                refine r_bipush (pc := 102) (v := 10) dX6_bestRound_102 (by decide) ?_
                refine r_iremc (pc := 104) dX6_bestRound_104 (by decide) ?_
                refine r_iast (pc := 105) dX6_bestRound_105 b80 h (fun m81 h => ?_)
                refine r_aload_n (pc := 106) dX6_bestRound_106 rfl rfl ?_
                refine fX6_16 (pc := 107) hF dX6_bestRound_107 (fun b82 => ?_)
                refine r_bipush (pc := 110) (v := 19) dX6_bestRound_110 (by decide) ?_
                refine r_iload (pc := 112) dX6_bestRound_112 rfl ?_
                refine r_bipush (pc := 114) (v := 10) dX6_bestRound_114 (by decide) ?_
                refine r_iremc (pc := 116) dX6_bestRound_116 (by decide) ?_
                refine r_iast (pc := 117) dX6_bestRound_117 b82 h (fun m83 h => ?_)
                refine r_aload_n (pc := 118) dX6_bestRound_118 rfl rfl ?_
                refine fX6_16 (pc := 119) hF dX6_bestRound_119 (fun b84 => ?_)
                refine r_iload_n (pc := 122) dX6_bestRound_122 rfl rfl ?_
                obtain ⟨m85, x86, q87, h⟩ := gCl_some h
                refine r_callS (pc := 123) [.ref _, .int _] (tX6_daysOn _ _ _ hF _ _ _ _ _ q87 b84) ⟨rfl, rfl⟩ cd_X6_daysOn wX6_173 nm_X6_daysOn rfl (by rw [hRm]; decide) rfl (Nat.le_of_ble_eq_true rfl) dX6_bestRound_123 ?_
                refine r_pop (pc := 126) dX6_bestRound_126 rfl ?_
                refine r_iload_n (pc := 127) dX6_bestRound_127 rfl rfl ?_
                refine r_iconst (pc := 128) (v := (-1)) dX6_bestRound_128 (by decide) ?_
                refine r_jnK h (fun (k90 : Int32 → gM → Option (gM × Int32)) => ∀ (x88 : Int32) (m89 : gM), k90 x88 m89 = some o → AW Y cX6_bestRound RX6 148 [some (.ref 5693), some (.int p1), some (.int v58), some (.int v59), some (.int v60), none] [.int x88] m89) (fun x88 m89 h => ?_) (fun k90 hJ91 h => ?_)
                · refine r_istore (pc := 148) dX6_bestRound_148 (by rw [hnL]; decide) rfl ?_
                  refine r_iload (pc := 150) dX6_bestRound_150 rfl ?_
                  refine r_jn1 h (fun x92 => AW Y cX6_bestRound RX6 161 [some (.ref 5693), some (.int p1), none, some (.int v59), some (.int v60), some (.int x88)] [.int x92] m89) (fun x92 h => ?_) (fun hJ93 => ?_)
                  · refine r_istore_n (pc := 161) dX6_bestRound_161 rfl (by rw [hnL]; decide) rfl ?_
                    refine r_iload (pc := 162) dX6_bestRound_162 rfl ?_
                    refine r_jnK h (fun (k97 : Int32 → gM → Option (gM × Int32)) => ∀ (x95 : Int32) (m96 : gM), k97 x95 m96 = some o → AW Y cX6_bestRound RX6 178 [some (.ref 5693), some (.int p1), some (.int x92), none, some (.int v60), none] [.int x95] m96) (fun x95 m96 h => ?_) (fun k97 hJ98 h => ?_)
                    · refine r_istore_n (pc := 178) dX6_bestRound_178 rfl (by rw [hnL]; decide) rfl ?_
                      exact r_mask [true, true, true, true, true, false] rfl (hJ69 _ _ _ h)
                    · refine r_if_eq (pc := 164) (tgt := 177) dX6_bestRound_164 (by decide) h (fun h => ?_) (fun h => ?_)
                      · refine r_iload_n (pc := 177) dX6_bestRound_177 rfl rfl ?_
                        exact r_mask [true, true, true, false, true, false] rfl (hJ98 _ _ h)
                      · refine r_aload_n (pc := 167) dX6_bestRound_167 rfl rfl ?_
                        refine fX6_16 (pc := 168) hF dX6_bestRound_168 (fun b99 => ?_)
                        obtain ⟨m100, x101, q102, h⟩ := gCl_some h
                        refine r_callS (pc := 171) [.ref _] (tX6_credits _ _ _ hF _ _ _ _ q102 b99) ⟨rfl, rfl⟩ cd_X6_credits wX6_192 nm_X6_credits rfl (by rw [hRm]; decide) rfl (Nat.le_of_ble_eq_true rfl) dX6_bestRound_171 ?_
                        refine r_goto (pc := 174) (tgt := 178) dX6_bestRound_174 (by decide) ?_
                        exact r_mask [true, true, true, false, true, false] rfl (hJ98 _ _ h)
                  · refine r_ifC_eq (pc := 152) (tgt := 160) dX6_bestRound_152 (by decide) (fun g94 => ?_) (fun g94 => ?_)
                    · refine r_iload_n (pc := 160) dX6_bestRound_160 rfl rfl ?_
                      exact r_mask [true, true, false, true, true, true] rfl (hJ93 _ (by rw [if_pos g94]))
                    · refine r_iload (pc := 155) dX6_bestRound_155 rfl ?_
                      refine r_goto (pc := 157) (tgt := 161) dX6_bestRound_157 (by decide) ?_
                      exact r_mask [true, true, false, true, true, true] rfl (hJ93 _ (by rw [if_neg g94]))
                · refine r_icmp_eq (pc := 129) (tgt := 143) dX6_bestRound_129 (by decide) h (fun h => ?_) (fun h => ?_)
                  · refine r_iconst (pc := 143) (v := 1) dX6_bestRound_143 (by decide) ?_
                    refine r_goto (pc := 144) (tgt := 148) dX6_bestRound_144 (by decide) ?_
                    exact r_mask [true, true, true, true, true, false] rfl (hJ91 _ _ h)
                  · refine r_aload_n (pc := 132) dX6_bestRound_132 rfl rfl ?_
                    refine fX6_16 (pc := 133) hF dX6_bestRound_133 (fun b103 => ?_)
                    obtain ⟨m104, x105, q106, h⟩ := gCl_some h
                    refine r_callS (pc := 136) [.ref _] (tX6_credits _ _ _ hF _ _ _ _ q106 b103) ⟨rfl, rfl⟩ cd_X6_credits wX6_192 nm_X6_credits rfl (by rw [hRm]; decide) rfl (Nat.le_of_ble_eq_true rfl) dX6_bestRound_136 ?_
                    refine r_iload_n (pc := 139) dX6_bestRound_139 rfl rfl ?_
                    refine r_icmp_ge (pc := 140) (tgt := 147) dX6_bestRound_140 (by decide) h (fun h => ?_) (fun h => ?_)
                    · refine r_iconst (pc := 147) (v := 0) dX6_bestRound_147 (by decide) ?_
                      exact r_mask [true, true, true, true, true, false] rfl (hJ91 _ _ h)
                    · refine r_iconst (pc := 143) (v := 1) dX6_bestRound_143 (by decide) ?_
                      refine r_goto (pc := 144) (tgt := 148) dX6_bestRound_144 (by decide) ?_
                      exact r_mask [true, true, true, true, true, false] rfl (hJ91 _ _ h)
      exact r_mask [true, true, true, true, true, false] rfl (L57 _ _ _ _ _ h)
    · refine r_iconst (pc := 24) (v := 0) dX6_bestRound_24 (by decide) ?_
      exact r_iretH dX6_bestRound_25 h he
  · refine r_ifC_eq (pc := 10) (tgt := 17) dX6_bestRound_10 (by decide) (fun g6 => ?_) (fun g6 => ?_)
    · refine r_iconst (pc := 17) (v := 1) dX6_bestRound_17 (by decide) ?_
      exact r_mask [true, true, false, false, false, false] rfl (hJ5 _ (by rw [if_pos g6]))
    · refine r_iconst (pc := 13) (v := 0) dX6_bestRound_13 (by decide) ?_
      refine r_goto (pc := 14) (tgt := 18) dX6_bestRound_14 (by decide) ?_
      exact r_mask [true, true, false, false, false, false] rfl (hJ5 _ (by rw [if_neg g6]))
set_option maxHeartbeats 4000000 in
set_option maxRecDepth 100000 in
theorem tX6_command (l : Launch) (G : gX) (u : gU) (hF : gFull u) (p1 : Int32) (p2 : Int32) (m : gM) (o : gM × Int32) (h : fX6_command p1 p2 m = some o)  : gMet l G u yX6_command (.code yX6_command cX6_command 10 (some .boolean)) rmX6_command [.ref 5693, .int p1, .int p2] m o.1 (some (.int o.2)) := by
  refine gMet_of (own := RX6) (k := 7) (by decide) rfl ⟨rfl, rfl⟩ (Nat.le_of_ble_eq_true rfl) [some (.ref 5693), some (.int p1), some (.int p2), none, none, none, none, none, none, none] rfl (fun Y hG hu hnL hLn hRm he => ?_)
  subst hG hu hLn
  unfold fX6_command at h
  refine r_iload_n (pc := 0) dX6_command_0 rfl rfl ?_
  refine r_sipush (pc := 1) (v := 10000) dX6_command_1 (by decide) ?_
  refine r_idivc (pc := 4) dX6_command_4 (by decide) ?_
  refine r_istore_nL (pc := 5) dX6_command_5 rfl (by rw [hnL]; decide) h (fun x1 h => ?_)
  refine r_iload_n (pc := 6) dX6_command_6 rfl rfl ?_
  refine r_sipush (pc := 7) (v := 1000) dX6_command_7 (by decide) ?_
  refine r_idivc (pc := 10) dX6_command_10 (by decide) ?_
  refine r_bipush (pc := 11) (v := 10) dX6_command_11 (by decide) ?_
  refine r_iremc (pc := 13) dX6_command_13 (by decide) ?_
  refine r_istoreL (pc := 14) dX6_command_14 (by rw [hnL]; decide) h (fun x2 h => ?_)
  refine r_iload_n (pc := 16) dX6_command_16 rfl rfl ?_
  refine r_bipush (pc := 17) (v := 100) dX6_command_17 (by decide) ?_
  refine r_idivc (pc := 19) dX6_command_19 (by decide) ?_
  refine r_bipush (pc := 20) (v := 10) dX6_command_20 (by decide) ?_
  refine r_iremc (pc := 22) dX6_command_22 (by decide) ?_
  refine r_istoreL (pc := 23) dX6_command_23 (by rw [hnL]; decide) h (fun x3 h => ?_)
  refine r_iload_n (pc := 25) dX6_command_25 rfl rfl ?_
  refine r_bipush (pc := 26) (v := 100) dX6_command_26 (by decide) ?_
  refine r_iremc (pc := 28) dX6_command_28 (by decide) ?_
  refine r_istoreL (pc := 29) dX6_command_29 (by rw [hnL]; decide) h (fun x4 h => ?_)
  refine r_iload_n (pc := 31) dX6_command_31 rfl rfl ?_
  refine r_sipush (pc := 32) (v := 1000) dX6_command_32 (by decide) ?_
  refine r_iremc (pc := 35) dX6_command_35 (by decide) ?_
  refine r_istoreL (pc := 36) dX6_command_36 (by rw [hnL]; decide) h (fun x5 h => ?_)
  refine r_iload_n (pc := 38) dX6_command_38 rfl rfl ?_
  refine r_sipush (pc := 39) (v := 10000) dX6_command_39 (by decide) ?_
  refine r_iremc (pc := 42) dX6_command_42 (by decide) ?_
  refine r_istoreL (pc := 43) dX6_command_43 (by rw [hnL]; decide) h (fun x6 h => ?_)
  refine r_iload_n (pc := 45) dX6_command_45 rfl rfl ?_
  refine r_bipush (pc := 46) (v := 100) dX6_command_46 (by decide) ?_
  refine r_idivc (pc := 48) dX6_command_48 (by decide) ?_
  refine r_bipush (pc := 49) (v := 100) dX6_command_49 (by decide) ?_
  refine r_iremc (pc := 51) dX6_command_51 (by decide) ?_
  refine r_istoreL (pc := 52) dX6_command_52 (by rw [hnL]; decide) h (fun x7 h => ?_)
  refine r_iload_n (pc := 54) dX6_command_54 rfl rfl ?_
  refine r_sw h (fun g8 h => ?_) (fun g8 h => ?_)
  · refine r_tabIn (pc := 55) (tgt := 104) (v := 1) dX6_command_55 g8 (by decide) (by decide) rfl (by decide) ?_
    refine r_iload_n (pc := 104) dX6_command_104 rfl rfl ?_
    refine r_i2l (pc := 105) dX6_command_105 ?_
    refine r_lconst (pc := 106) (v := 1) dX6_command_106 (by decide) ?_
    refine r_ldc2 (pc := 107) (v := 60) dX6_command_107 cX6_223 ?_
    obtain ⟨m9, x10, q11, h⟩ := gCl_some h
    refine r_callS (pc := 110) [.long _, .long _, .long _] (tX6_in _ _ _ hF _ _ _ _ _ q11) ⟨rfl, rfl⟩ cd_X6_in wX6_37 nm_X6_in rfl (by rw [hRm]; decide) rfl (Nat.le_of_ble_eq_true rfl) dX6_command_110 ?_
    refine r_if_eq (pc := 113) (tgt := 131) dX6_command_113 (by decide) h (fun h => ?_) (fun h => ?_)
    · refine r_iconst (pc := 131) (v := 0) dX6_command_131 (by decide) ?_
      exact r_zretH dX6_command_132 rfl h he
    · refine r_aload_n (pc := 116) dX6_command_116 rfl rfl ?_
      refine fX6_16 (pc := 117) hF dX6_command_117 (fun b12 => ?_)
      refine r_iload_n (pc := 120) dX6_command_120 rfl rfl ?_
      obtain ⟨m13, x14, q15, h⟩ := gCl_some h
      refine r_callS (pc := 121) [.ref _, .int _] (tX6_daysOn _ _ _ hF _ _ _ _ _ q15 b12) ⟨rfl, rfl⟩ cd_X6_daysOn wX6_173 nm_X6_daysOn rfl (by rw [hRm]; decide) rfl (Nat.le_of_ble_eq_true rfl) dX6_command_121 ?_
      refine r_if_lt (pc := 124) (tgt := 131) dX6_command_124 (by decide) h (fun h => ?_) (fun h => ?_)
      · refine r_iconst (pc := 131) (v := 0) dX6_command_131 (by decide) ?_
        exact r_zretH dX6_command_132 rfl h he
      · refine r_iconst (pc := 127) (v := 1) dX6_command_127 (by decide) ?_
        refine r_goto (pc := 128) (tgt := 132) dX6_command_128 (by decide) ?_
        exact r_zretH dX6_command_132 rfl h he
  refine r_sw h (fun g16 h => ?_) (fun g16 h => ?_)
  · refine r_tabIn (pc := 55) (tgt := 133) (v := 2) dX6_command_55 g16 (by decide) (by decide) rfl (by decide) ?_
    refine r_iload (pc := 133) dX6_command_133 rfl ?_
    refine r_if_ne (pc := 135) (tgt := 176) dX6_command_135 (by decide) h (fun h => ?_) (fun h => ?_)
    · refine r_iconst (pc := 176) (v := 0) dX6_command_176 (by decide) ?_
      exact r_zretH dX6_command_177 rfl h he
    · refine r_aload_n (pc := 138) dX6_command_138 rfl rfl ?_
      refine fX6_16 (pc := 139) hF dX6_command_139 (fun b17 => ?_)
      refine r_iload_n (pc := 142) dX6_command_142 rfl rfl ?_
      obtain ⟨m18, x19, q20, h⟩ := gCl_some h
      refine r_callS (pc := 143) [.ref _, .int _] (tX6_isCustomer _ _ _ hF _ _ _ _ _ q20 b17) ⟨rfl, rfl⟩ cd_X6_isCustomer wX6_139 nm_X6_isCustomer rfl (by rw [hRm]; decide) rfl (Nat.le_of_ble_eq_true rfl) dX6_command_143 ?_
      refine r_if_eq (pc := 146) (tgt := 176) dX6_command_146 (by decide) h (fun h => ?_) (fun h => ?_)
      · refine r_iconst (pc := 176) (v := 0) dX6_command_176 (by decide) ?_
        exact r_zretH dX6_command_177 rfl h he
      · refine r_iload (pc := 149) dX6_command_149 rfl ?_
        obtain ⟨m21, x22, q23, h⟩ := gCl_some h
        refine r_callS (pc := 151) [.int _] (tX6_isWeekday _ _ _ hF _ _ _ q23) ⟨rfl, rfl⟩ cd_X6_isWeekday wX6_200 nm_X6_isWeekday rfl (by rw [hRm]; decide) rfl (Nat.le_of_ble_eq_true rfl) dX6_command_151 ?_
        refine r_if_eq (pc := 154) (tgt := 176) dX6_command_154 (by decide) h (fun h => ?_) (fun h => ?_)
        · refine r_iconst (pc := 176) (v := 0) dX6_command_176 (by decide) ?_
          exact r_zretH dX6_command_177 rfl h he
        · refine r_aload_n (pc := 157) dX6_command_157 rfl rfl ?_
          refine fX6_16 (pc := 158) hF dX6_command_158 (fun b24 => ?_)
          refine r_iload_n (pc := 161) dX6_command_161 rfl rfl ?_
          refine r_iload (pc := 162) dX6_command_162 rfl ?_
          refine r_iload (pc := 164) dX6_command_164 rfl ?_
          obtain ⟨m25, x26, q27, h⟩ := gCl_some h
          refine r_callS (pc := 166) [.ref _, .int _, .int _, .int _] (tX6_changeOn _ _ _ hF _ _ _ _ _ _ _ q27 b24) ⟨rfl, rfl⟩ cd_X6_changeOn wX6_143 nm_X6_changeOn rfl (by rw [hRm]; decide) rfl (Nat.le_of_ble_eq_true rfl) dX6_command_166 ?_
          refine r_if_lt (pc := 169) (tgt := 176) dX6_command_169 (by decide) h (fun h => ?_) (fun h => ?_)
          · refine r_iconst (pc := 176) (v := 0) dX6_command_176 (by decide) ?_
            exact r_zretH dX6_command_177 rfl h he
          · refine r_iconst (pc := 172) (v := 1) dX6_command_172 (by decide) ?_
            refine r_goto (pc := 173) (tgt := 177) dX6_command_173 (by decide) ?_
            exact r_zretH dX6_command_177 rfl h he
  refine r_sw h (fun g28 h => ?_) (fun g28 h => ?_)
  · refine r_tabIn (pc := 55) (tgt := 178) (v := 3) dX6_command_55 g28 (by decide) (by decide) rfl (by decide) ?_
    refine r_aload_n (pc := 178) dX6_command_178 rfl rfl ?_
    refine fX6_16 (pc := 179) hF dX6_command_179 (fun b29 => ?_)
    refine r_iload_n (pc := 182) dX6_command_182 rfl rfl ?_
    obtain ⟨m30, x31, q32, h⟩ := gCl_some h
    refine r_callS (pc := 183) [.ref _, .int _] (tX6_isCustomer _ _ _ hF _ _ _ _ _ q32 b29) ⟨rfl, rfl⟩ cd_X6_isCustomer wX6_139 nm_X6_isCustomer rfl (by rw [hRm]; decide) rfl (Nat.le_of_ble_eq_true rfl) dX6_command_183 ?_
    refine r_if_eq (pc := 186) (tgt := 229) dX6_command_186 (by decide) h (fun h => ?_) (fun h => ?_)
    · refine r_iconst (pc := 229) (v := 0) dX6_command_229 (by decide) ?_
      exact r_zretH dX6_command_230 rfl h he
    · refine r_iload (pc := 189) dX6_command_189 rfl ?_
      refine r_iload (pc := 191) dX6_command_191 rfl ?_
      refine r_icmp_gt (pc := 193) (tgt := 229) dX6_command_193 (by decide) h (fun h => ?_) (fun h => ?_)
      · refine r_iconst (pc := 229) (v := 0) dX6_command_229 (by decide) ?_
        exact r_zretH dX6_command_230 rfl h he
      · refine r_aload_n (pc := 196) dX6_command_196 rfl rfl ?_
        refine fX6_16 (pc := 197) hF dX6_command_197 (fun b33 => ?_)
        refine r_iload_n (pc := 200) dX6_command_200 rfl rfl ?_
        refine r_bipush (pc := 201) (v := 14) dX6_command_201 (by decide) ?_
        obtain ⟨m34, x35, q36, h⟩ := gCl_some h
        refine r_callS (pc := 203) [.ref _, .int _, .int _] (tX6_of _ _ _ hF _ _ _ _ _ _ q36 b33) ⟨rfl, rfl⟩ cd_X6_of wX6_53 nm_X6_of rfl (by rw [hRm]; decide) rfl (Nat.le_of_ble_eq_true rfl) dX6_command_203 ?_
        refine r_iconst (pc := 206) (v := 3) dX6_command_206 (by decide) ?_
        refine r_icmp_ge (pc := 207) (tgt := 229) dX6_command_207 (by decide) h (fun h => ?_) (fun h => ?_)
        · refine r_iconst (pc := 229) (v := 0) dX6_command_229 (by decide) ?_
          exact r_zretH dX6_command_230 rfl h he
        · refine r_aload_n (pc := 210) dX6_command_210 rfl rfl ?_
          refine fX6_16 (pc := 211) hF dX6_command_211 (fun b37 => ?_)
          refine r_iload_n (pc := 214) dX6_command_214 rfl rfl ?_
          refine r_iload (pc := 215) dX6_command_215 rfl ?_
          refine r_iload (pc := 217) dX6_command_217 rfl ?_
          obtain ⟨m38, x39, q40, h⟩ := gCl_some h
          refine r_callS (pc := 219) [.ref _, .int _, .int _, .int _] (tX6_holidayOn _ _ _ hF _ _ _ _ _ _ _ q40 b37) ⟨rfl, rfl⟩ cd_X6_holidayOn wX6_146 nm_X6_holidayOn rfl (by rw [hRm]; decide) rfl (Nat.le_of_ble_eq_true rfl) dX6_command_219 ?_
          refine r_if_le (pc := 222) (tgt := 229) dX6_command_222 (by decide) h (fun h => ?_) (fun h => ?_)
          · refine r_iconst (pc := 229) (v := 0) dX6_command_229 (by decide) ?_
            exact r_zretH dX6_command_230 rfl h he
          · refine r_iconst (pc := 225) (v := 1) dX6_command_225 (by decide) ?_
            refine r_goto (pc := 226) (tgt := 230) dX6_command_226 (by decide) ?_
            exact r_zretH dX6_command_230 rfl h he
  refine r_sw h (fun g41 h => ?_) (fun g41 h => ?_)
  · refine r_tabIn (pc := 55) (tgt := 231) (v := 4) dX6_command_55 g41 (by decide) (by decide) rfl (by decide) ?_
    refine r_iload (pc := 231) dX6_command_231 rfl ?_
    refine r_iconst (pc := 233) (v := 2) dX6_command_233 (by decide) ?_
    refine r_icmp_ge (pc := 234) (tgt := 280) dX6_command_234 (by decide) h (fun h => ?_) (fun h => ?_)
    · refine r_iconst (pc := 280) (v := 0) dX6_command_280 (by decide) ?_
      exact r_zretH dX6_command_281 rfl h he
    · refine r_iload_n (pc := 237) dX6_command_237 rfl rfl ?_
      obtain ⟨m42, x43, q44, h⟩ := gCl_some h
      refine r_callS (pc := 238) [.int _] (tX6_isStreet _ _ _ hF _ _ _ q44) ⟨rfl, rfl⟩ cd_X6_isStreet wX6_205 nm_X6_isStreet rfl (by rw [hRm]; decide) rfl (Nat.le_of_ble_eq_true rfl) dX6_command_238 ?_
      refine r_if_eq (pc := 241) (tgt := 280) dX6_command_241 (by decide) h (fun h => ?_) (fun h => ?_)
      · refine r_iconst (pc := 280) (v := 0) dX6_command_280 (by decide) ?_
        exact r_zretH dX6_command_281 rfl h he
      · refine r_iload (pc := 244) dX6_command_244 rfl ?_
        obtain ⟨m45, x46, q47, h⟩ := gCl_some h
        refine r_callS (pc := 246) [.int _] (tX6_isWeekday _ _ _ hF _ _ _ q47) ⟨rfl, rfl⟩ cd_X6_isWeekday wX6_200 nm_X6_isWeekday rfl (by rw [hRm]; decide) rfl (Nat.le_of_ble_eq_true rfl) dX6_command_246 ?_
        refine r_if_eq (pc := 249) (tgt := 280) dX6_command_249 (by decide) h (fun h => ?_) (fun h => ?_)
        · refine r_iconst (pc := 280) (v := 0) dX6_command_280 (by decide) ?_
          exact r_zretH dX6_command_281 rfl h he
        · refine r_aload_n (pc := 252) dX6_command_252 rfl rfl ?_
          refine fX6_16 (pc := 253) hF dX6_command_253 (fun b48 => ?_)
          refine r_iload_n (pc := 256) dX6_command_256 rfl rfl ?_
          refine r_iload (pc := 257) dX6_command_257 rfl ?_
          refine r_iload (pc := 259) dX6_command_259 rfl ?_
          refine r_iconst (pc := 261) (v := 1) dX6_command_261 (by decide) ?_
          refine r_jn1 h (fun x49 => AW Y cX6_command RX6 270 [none, none, none, none, none, none, none, none, none, none] [.int x49, .int x2, .int x1, .ref 6082] m45) (fun x49 h => ?_) (fun hJ50 => ?_)
          · obtain ⟨m52, x53, q54, h⟩ := gCl_some h
            refine r_callS (pc := 270) [.ref _, .int _, .int _, .int _] (tX6_closeOn _ _ _ hF _ _ _ _ _ _ _ q54 b48) ⟨rfl, rfl⟩ cd_X6_closeOn wX6_149 nm_X6_closeOn rfl (by rw [hRm]; decide) rfl (Nat.le_of_ble_eq_true rfl) dX6_command_270 ?_
            refine r_if_lt (pc := 273) (tgt := 280) dX6_command_273 (by decide) h (fun h => ?_) (fun h => ?_)
            · refine r_iconst (pc := 280) (v := 0) dX6_command_280 (by decide) ?_
              exact r_zretH dX6_command_281 rfl h he
            · refine r_iconst (pc := 276) (v := 1) dX6_command_276 (by decide) ?_
              refine r_goto (pc := 277) (tgt := 281) dX6_command_277 (by decide) ?_
              exact r_zretH dX6_command_281 rfl h he
          · refine r_icmpC_ne (pc := 262) (tgt := 269) dX6_command_262 (by decide) (fun g51 => ?_) (fun g51 => ?_)
            · refine r_iconst (pc := 269) (v := 0) dX6_command_269 (by decide) ?_
              exact r_mask [false, false, false, false, false, false, false, false, false, false] rfl (hJ50 _ (by rw [if_neg g51]))
            · refine r_iconst (pc := 265) (v := 1) dX6_command_265 (by decide) ?_
              refine r_goto (pc := 266) (tgt := 270) dX6_command_266 (by decide) ?_
              exact r_mask [false, false, false, false, false, false, false, false, false, false] rfl (hJ50 _ (by rw [if_pos g51]))
  refine r_sw h (fun g55 h => ?_) (fun g55 h => ?_)
  · refine r_tabIn (pc := 55) (tgt := 282) (v := 5) dX6_command_55 g55 (by decide) (by decide) rfl (by decide) ?_
    refine r_iload (pc := 282) dX6_command_282 rfl ?_
    refine r_if_ne (pc := 284) (tgt := 319) dX6_command_284 (by decide) h (fun h => ?_) (fun h => ?_)
    · refine r_iconst (pc := 319) (v := 0) dX6_command_319 (by decide) ?_
      exact r_zretH dX6_command_320 rfl h he
    · refine r_iload_n (pc := 287) dX6_command_287 rfl rfl ?_
      obtain ⟨m56, x57, q58, h⟩ := gCl_some h
      refine r_callS (pc := 288) [.int _] (tX6_isStreet _ _ _ hF _ _ _ q58) ⟨rfl, rfl⟩ cd_X6_isStreet wX6_205 nm_X6_isStreet rfl (by rw [hRm]; decide) rfl (Nat.le_of_ble_eq_true rfl) dX6_command_288 ?_
      refine r_if_eq (pc := 291) (tgt := 319) dX6_command_291 (by decide) h (fun h => ?_) (fun h => ?_)
      · refine r_iconst (pc := 319) (v := 0) dX6_command_319 (by decide) ?_
        exact r_zretH dX6_command_320 rfl h he
      · refine r_iload (pc := 294) dX6_command_294 rfl ?_
        obtain ⟨m59, x60, q61, h⟩ := gCl_some h
        refine r_callS (pc := 296) [.int _] (tX6_isStreet _ _ _ hF _ _ _ q61) ⟨rfl, rfl⟩ cd_X6_isStreet wX6_205 nm_X6_isStreet rfl (by rw [hRm]; decide) rfl (Nat.le_of_ble_eq_true rfl) dX6_command_296 ?_
        refine r_if_eq (pc := 299) (tgt := 319) dX6_command_299 (by decide) h (fun h => ?_) (fun h => ?_)
        · refine r_iconst (pc := 319) (v := 0) dX6_command_319 (by decide) ?_
          exact r_zretH dX6_command_320 rfl h he
        · refine r_aload_n (pc := 302) dX6_command_302 rfl rfl ?_
          refine fX6_16 (pc := 303) hF dX6_command_303 (fun b62 => ?_)
          refine r_iload_n (pc := 306) dX6_command_306 rfl rfl ?_
          refine r_iload (pc := 307) dX6_command_307 rfl ?_
          obtain ⟨m63, x64, q65, h⟩ := gCl_some h
          refine r_callS (pc := 309) [.ref _, .int _, .int _] (tX6_swapOn _ _ _ hF _ _ _ _ _ _ q65 b62) ⟨rfl, rfl⟩ cd_X6_swapOn wX6_166 nm_X6_swapOn rfl (by rw [hRm]; decide) rfl (Nat.le_of_ble_eq_true rfl) dX6_command_309 ?_
          refine r_if_lt (pc := 312) (tgt := 319) dX6_command_312 (by decide) h (fun h => ?_) (fun h => ?_)
          · refine r_iconst (pc := 319) (v := 0) dX6_command_319 (by decide) ?_
            exact r_zretH dX6_command_320 rfl h he
          · refine r_iconst (pc := 315) (v := 1) dX6_command_315 (by decide) ?_
            refine r_goto (pc := 316) (tgt := 320) dX6_command_316 (by decide) ?_
            exact r_zretH dX6_command_320 rfl h he
  refine r_sw h (fun g66 h => ?_) (fun g66 h => ?_)
  · refine r_tabIn (pc := 55) (tgt := 321) (v := 6) dX6_command_55 g66 (by decide) (by decide) rfl (by decide) ?_
    refine r_iload (pc := 321) dX6_command_321 rfl ?_
    refine r_bipush (pc := 323) (v := 100) dX6_command_323 (by decide) ?_
    refine r_icmp_ge (pc := 325) (tgt := 357) dX6_command_325 (by decide) h (fun h => ?_) (fun h => ?_)
    · refine r_iconst (pc := 357) (v := 0) dX6_command_357 (by decide) ?_
      exact r_zretH dX6_command_358 rfl h he
    · refine r_iload_n (pc := 328) dX6_command_328 rfl rfl ?_
      refine r_iload (pc := 329) dX6_command_329 rfl ?_
      obtain ⟨m67, x68, q69, h⟩ := gCl_some h
      refine r_callS (pc := 331) [.int _, .int _] (tX6_isSetting _ _ _ hF _ _ _ _ q69) ⟨rfl, rfl⟩ cd_X6_isSetting wX6_169 nm_X6_isSetting rfl (by rw [hRm]; decide) rfl (Nat.le_of_ble_eq_true rfl) dX6_command_331 ?_
      refine r_if_eq (pc := 334) (tgt := 357) dX6_command_334 (by decide) h (fun h => ?_) (fun h => ?_)
      · refine r_iconst (pc := 357) (v := 0) dX6_command_357 (by decide) ?_
        exact r_zretH dX6_command_358 rfl h he
      · refine r_aload_n (pc := 337) dX6_command_337 rfl rfl ?_
        refine fX6_16 (pc := 338) hF dX6_command_338 (fun b70 => ?_)
        refine r_bipush (pc := 341) (v := 11) dX6_command_341 (by decide) ?_
        refine r_iload_n (pc := 343) dX6_command_343 rfl rfl ?_
        refine r_iadd (pc := 344) dX6_command_344 ?_
        refine r_iload (pc := 345) dX6_command_345 rfl ?_
        obtain ⟨m71, x72, q73, h⟩ := gCl_some h
        refine r_callS (pc := 347) [.ref _, .int _, .int _] (tX6_put _ _ _ hF _ _ _ _ _ _ q73 b70) ⟨rfl, rfl⟩ cd_X6_put wX6_95 nm_X6_put rfl (by rw [hRm]; decide) rfl (Nat.le_of_ble_eq_true rfl) dX6_command_347 ?_
        refine r_if_lt (pc := 350) (tgt := 357) dX6_command_350 (by decide) h (fun h => ?_) (fun h => ?_)
        · refine r_iconst (pc := 357) (v := 0) dX6_command_357 (by decide) ?_
          exact r_zretH dX6_command_358 rfl h he
        · refine r_iconst (pc := 353) (v := 1) dX6_command_353 (by decide) ?_
          refine r_goto (pc := 354) (tgt := 358) dX6_command_354 (by decide) ?_
          exact r_zretH dX6_command_358 rfl h he
  refine r_sw h (fun g74 h => ?_) (fun g74 h => ?_)
  · refine r_tabIn (pc := 55) (tgt := 359) (v := 7) dX6_command_55 g74 (by decide) (by decide) rfl (by decide) ?_
    refine r_iload (pc := 359) dX6_command_359 rfl ?_
    refine r_bipush (pc := 361) (v := 100) dX6_command_361 (by decide) ?_
    refine r_icmp_ge (pc := 363) (tgt := 396) dX6_command_363 (by decide) h (fun h => ?_) (fun h => ?_)
    · refine r_iconst (pc := 396) (v := 0) dX6_command_396 (by decide) ?_
      exact r_zretH dX6_command_397 rfl h he
    · refine r_aload_n (pc := 366) dX6_command_366 rfl rfl ?_
      refine fX6_16 (pc := 367) hF dX6_command_367 (fun b75 => ?_)
      refine r_iload_n (pc := 370) dX6_command_370 rfl rfl ?_
      obtain ⟨m76, x77, q78, h⟩ := gCl_some h
      refine r_callS (pc := 371) [.ref _, .int _] (tX6_isCustomer _ _ _ hF _ _ _ _ _ q78 b75) ⟨rfl, rfl⟩ cd_X6_isCustomer wX6_139 nm_X6_isCustomer rfl (by rw [hRm]; decide) rfl (Nat.le_of_ble_eq_true rfl) dX6_command_371 ?_
      refine r_if_eq (pc := 374) (tgt := 396) dX6_command_374 (by decide) h (fun h => ?_) (fun h => ?_)
      · refine r_iconst (pc := 396) (v := 0) dX6_command_396 (by decide) ?_
        exact r_zretH dX6_command_397 rfl h he
      · refine r_aload_n (pc := 377) dX6_command_377 rfl rfl ?_
        refine fX6_16 (pc := 378) hF dX6_command_378 (fun b79 => ?_)
        refine r_iload_n (pc := 381) dX6_command_381 rfl rfl ?_
        refine r_bipush (pc := 382) (v := 8) dX6_command_382 (by decide) ?_
        obtain ⟨m80, x81, q82, h⟩ := gCl_some h
        refine r_callS (pc := 384) [.ref _, .int _, .int _] (tX6_of _ _ _ hF _ _ _ _ _ _ q82 b79) ⟨rfl, rfl⟩ cd_X6_of wX6_53 nm_X6_of rfl (by rw [hRm]; decide) rfl (Nat.le_of_ble_eq_true rfl) dX6_command_384 ?_
        refine r_iload (pc := 387) dX6_command_387 rfl ?_
        refine r_icmp_gt (pc := 389) (tgt := 396) dX6_command_389 (by decide) h (fun h => ?_) (fun h => ?_)
        · refine r_iconst (pc := 396) (v := 0) dX6_command_396 (by decide) ?_
          exact r_zretH dX6_command_397 rfl h he
        · refine r_iconst (pc := 392) (v := 1) dX6_command_392 (by decide) ?_
          refine r_goto (pc := 393) (tgt := 397) dX6_command_393 (by decide) ?_
          exact r_zretH dX6_command_397 rfl h he
  refine r_sw h (fun g83 h => ?_) (fun g83 h => ?_)
  · refine r_tabIn (pc := 55) (tgt := 398) (v := 8) dX6_command_55 g83 (by decide) (by decide) rfl (by decide) ?_
    refine r_iload (pc := 398) dX6_command_398 rfl ?_
    refine r_bipush (pc := 400) (v := 10) dX6_command_400 (by decide) ?_
    refine r_icmp_ge (pc := 402) (tgt := 433) dX6_command_402 (by decide) h (fun h => ?_) (fun h => ?_)
    · refine r_iconst (pc := 433) (v := 0) dX6_command_433 (by decide) ?_
      exact r_zretH dX6_command_434 rfl h he
    · refine r_aload_n (pc := 405) dX6_command_405 rfl rfl ?_
      refine fX6_16 (pc := 406) hF dX6_command_406 (fun b84 => ?_)
      refine r_iload_n (pc := 409) dX6_command_409 rfl rfl ?_
      obtain ⟨m85, x86, q87, h⟩ := gCl_some h
      refine r_callS (pc := 410) [.ref _, .int _] (tX6_isCustomer _ _ _ hF _ _ _ _ _ q87 b84) ⟨rfl, rfl⟩ cd_X6_isCustomer wX6_139 nm_X6_isCustomer rfl (by rw [hRm]; decide) rfl (Nat.le_of_ble_eq_true rfl) dX6_command_410 ?_
      refine r_if_eq (pc := 413) (tgt := 433) dX6_command_413 (by decide) h (fun h => ?_) (fun h => ?_)
      · refine r_iconst (pc := 433) (v := 0) dX6_command_433 (by decide) ?_
        exact r_zretH dX6_command_434 rfl h he
      · refine r_aload_n (pc := 416) dX6_command_416 rfl rfl ?_
        refine fX6_16 (pc := 417) hF dX6_command_417 (fun b88 => ?_)
        refine r_iload_n (pc := 420) dX6_command_420 rfl rfl ?_
        obtain ⟨m89, x90, q91, h⟩ := gCl_some h
        refine r_callS (pc := 421) [.ref _, .int _] (tX6_reason _ _ _ hF _ _ _ _ _ q91 b88) ⟨rfl, rfl⟩ cd_X6_reason wX6_225 nm_X6_reason rfl (by rw [hRm]; decide) rfl (Nat.le_of_ble_eq_true rfl) dX6_command_421 ?_
        refine r_iload (pc := 424) dX6_command_424 rfl ?_
        refine r_icmp_ne (pc := 426) (tgt := 433) dX6_command_426 (by decide) h (fun h => ?_) (fun h => ?_)
        · refine r_iconst (pc := 433) (v := 0) dX6_command_433 (by decide) ?_
          exact r_zretH dX6_command_434 rfl h he
        · refine r_iconst (pc := 429) (v := 1) dX6_command_429 (by decide) ?_
          refine r_goto (pc := 430) (tgt := 434) dX6_command_430 (by decide) ?_
          exact r_zretH dX6_command_434 rfl h he
  refine r_sw h (fun g92 h => ?_) (fun g92 h => ?_)
  · refine r_tabIn (pc := 55) (tgt := 435) (v := 9) dX6_command_55 g92 (by decide) (by decide) rfl (by decide) ?_
    refine r_iload_n (pc := 435) dX6_command_435 rfl rfl ?_
    refine r_if_ne (pc := 436) (tgt := 461) dX6_command_436 (by decide) h (fun h => ?_) (fun h => ?_)
    · refine r_iconst (pc := 461) (v := 0) dX6_command_461 (by decide) ?_
      exact r_zretH dX6_command_462 rfl h he
    · refine r_aload_n (pc := 439) dX6_command_439 rfl rfl ?_
      refine fX6_16 (pc := 440) hF dX6_command_440 (fun b93 => ?_)
      refine r_iconst (pc := 443) (v := 3) dX6_command_443 (by decide) ?_
      refine r_iald (pc := 444) dX6_command_444 b93 h (fun x94 h => ?_)
      refine r_aload_n (pc := 445) dX6_command_445 rfl rfl ?_
      refine fX6_16 (pc := 446) hF dX6_command_446 (fun b95 => ?_)
      refine r_iconst (pc := 449) (v := 4) dX6_command_449 (by decide) ?_
      refine r_iald (pc := 450) dX6_command_450 b95 h (fun x96 h => ?_)
      refine r_iadd (pc := 451) dX6_command_451 ?_
      refine r_iload (pc := 452) dX6_command_452 rfl ?_
      refine r_icmp_lt (pc := 454) (tgt := 461) dX6_command_454 (by decide) h (fun h => ?_) (fun h => ?_)
      · refine r_iconst (pc := 461) (v := 0) dX6_command_461 (by decide) ?_
        exact r_zretH dX6_command_462 rfl h he
      · refine r_iconst (pc := 457) (v := 1) dX6_command_457 (by decide) ?_
        refine r_goto (pc := 458) (tgt := 462) dX6_command_458 (by decide) ?_
        exact r_zretH dX6_command_462 rfl h he
  have g8n := gNe g8 (z := 1) (by decide)
  have g16n := gNe g16 (z := 2) (by decide)
  have g28n := gNe g28 (z := 3) (by decide)
  have g41n := gNe g41 (z := 4) (by decide)
  have g55n := gNe g55 (z := 5) (by decide)
  have g66n := gNe g66 (z := 6) (by decide)
  have g74n := gNe g74 (z := 7) (by decide)
  have g83n := gNe g83 (z := 8) (by decide)
  have g92n := gNe g92 (z := 9) (by decide)
  refine r_tabOut (pc := 55) (tgt := 463) dX6_command_55 (by omega) (by decide) ?_
  refine r_iconst (pc := 463) (v := 0) dX6_command_463 (by decide) ?_
  exact r_zretH dX6_command_464 rfl h he
set_option maxHeartbeats 4000000 in
set_option maxRecDepth 100000 in
theorem tX6_runScript (l : Launch) (G : gX) (u : gU) (hF : gFull u) (p1 : Int32) (p2 : Int64) (m : gM) (o : gM × Int32) (h : fX6_runScript p1 p2 m = some o)  : gMet l G u yX6_runScript (.code yX6_runScript cX6_runScript 8 (some .int)) rmX6_runScript [.ref 5693, .int p1, .long p2] m o.1 (some (.int o.2)) := by
  refine gMet_of (own := RX6) (k := 4) (by decide) rfl ⟨rfl, rfl⟩ (Nat.le_of_ble_eq_true rfl) [some (.ref 5693), some (.int p1), some (.long p2), none, none, none, none, none] rfl (fun Y hG hu hnL hLn hRm he => ?_)
  subst hG hu hLn
  unfold fX6_runScript at h
  refine r_lconst (pc := 0) (v := 1) dX6_runScript_0 (by decide) ?_
  refine r_lstore (pc := 1) dX6_runScript_1 (by rw [hnL]; decide) rfl ?_
  refine r_iconst (pc := 3) (v := 0) dX6_runScript_3 (by decide) ?_
  refine r_istore (pc := 4) dX6_runScript_4 (by rw [hnL]; decide) rfl ?_
  have L67 : ∀ (n65 : Nat) (v68 : Int64) (v69 : Int32) (m70 : gM), fX6_runScript_L6 p1 p2 n65 v68 v69 m70 = some o → AW Y cX6_runScript RX6 6 [some (.ref 5693), some (.int p1), some (.long p2), none, some (.long v68), none, some (.int v69), none] [] m70 := by
    intro n65
    induction n65 with
    | zero =>
      intro v68 v69 m70 h
      exact absurd h (by simp [fX6_runScript_L6])
    | succ n65 ih66 =>
      intro v68 v69 m70 h
      rw [fX6_runScript_L6] at h
      refine r_iload (pc := 6) dX6_runScript_6 rfl ?_
      refine r_iload_n (pc := 8) dX6_runScript_8 rfl rfl ?_
      refine r_icmp_ge (pc := 9) (tgt := 32) dX6_runScript_9 (by decide) h (fun h => ?_) (fun h => ?_)
      · refine r_aload_n (pc := 32) dX6_runScript_32 rfl rfl ?_
        refine r_iload_n (pc := 33) dX6_runScript_33 rfl rfl ?_
        refine r_i2l (pc := 34) dX6_runScript_34 ?_
        refine r_lconst (pc := 35) (v := 1) dX6_runScript_35 (by decide) ?_
        refine r_ldc2 (pc := 36) (v := 3) dX6_runScript_36 cX6_41 ?_
        obtain ⟨m71, x72, q73, h⟩ := gCl_some h
        refine r_callS (pc := 39) [.long _, .long _, .long _] (tX6_in _ _ _ hF _ _ _ _ _ q73) ⟨rfl, rfl⟩ cd_X6_in wX6_37 nm_X6_in rfl (by rw [hRm]; decide) rfl (Nat.le_of_ble_eq_true rfl) dX6_runScript_39 ?_
        refine r_jnK h (fun (k76 : Int32 → gM → Option (gM × Int32)) => ∀ (x74 : Int32) (m75 : gM), k76 x74 m75 = some o → AW Y cX6_runScript RX6 62 [some (.ref 5693), some (.int p1), some (.long p2), none, some (.long v68), none, none, none] [.int x74, .ref 5693] m75) (fun x74 m75 h => ?_) (fun k76 hJ77 h => ?_)
        · obtain ⟨m78, x79, q80, h⟩ := gCl_some h
          refine r_callV (kd := 5) (pc := 62) [.int _] (tX6_refused _ _ _ hF _ _ _ q80) ⟨rfl, rfl⟩ cd_X6_refused wX6_108 nm_X6_refused rfl (by rw [hRm]; decide) rfl (Nat.le_of_ble_eq_true rfl) rfl (by decide) (gO5 hF) dX6_runScript_62 ?_
          refine r_if_eq (pc := 65) (tgt := 70) dX6_runScript_65 (by decide) h (fun h => ?_) (fun h => ?_)
          · refine r_aload_n (pc := 70) dX6_runScript_70 rfl rfl ?_
            refine fX6_13 (pc := 71) hF dX6_runScript_71 (fun b81 => ?_)
            refine r_iconst (pc := 74) (v := 0) dX6_runScript_74 (by decide) ?_
            refine r_aload_n (pc := 75) dX6_runScript_75 rfl rfl ?_
            refine fX6_16 (pc := 76) hF dX6_runScript_76 (fun b82 => ?_)
            refine r_iconst (pc := 79) (v := 0) dX6_runScript_79 (by decide) ?_
            obtain ⟨m83, q85, h⟩ := gCv_some h
            refine r_callS (pc := 80) [.ref _, .int _, .ref _, .int _] (tX6_copyState _ _ _ hF _ _ _ _ _ _ _ _ q85 b81 b82) ⟨rfl, rfl⟩ cd_X6_copyState wX6_183 nm_X6_copyState rfl (by rw [hRm]; decide) rfl (Nat.le_of_ble_eq_true rfl) dX6_runScript_80 ?_
            refine r_iconst (pc := 83) (v := 0) dX6_runScript_83 (by decide) ?_
            refine r_istore (pc := 84) dX6_runScript_84 (by rw [hnL]; decide) rfl ?_
            have L88 : ∀ (n86 : Nat) (v89 : Int64) (v90 : Int32) (m91 : gM), fX6_runScript_L86 p1 p2 (fX6_runScript_L6 p1 p2 n65) n86 v89 v90 m91 = some o → AW Y cX6_runScript RX6 86 [some (.ref 5693), some (.int p1), some (.long p2), none, some (.long v89), none, some (.int v90), none] [] m91 := by
              intro n86
              induction n86 with
              | zero =>
                intro v89 v90 m91 h
                exact absurd h (by simp [fX6_runScript_L86])
              | succ n86 ih87 =>
                intro v89 v90 m91 h
                rw [fX6_runScript_L86] at h
                refine r_iload (pc := 86) dX6_runScript_86 rfl ?_
                refine r_iload_n (pc := 88) dX6_runScript_88 rfl rfl ?_
                refine r_icmp_ge (pc := 89) (tgt := 137) dX6_runScript_89 (by decide) h (fun h => ?_) (fun h => ?_)
                · refine r_iconst (pc := 137) (v := (-1)) dX6_runScript_137 (by decide) ?_
                  exact r_iretH dX6_runScript_138 h he
                · refine r_lload (pc := 92) dX6_runScript_92 rfl ?_
                  refine r_ldc2 (pc := 94) (v := 1000000) dX6_runScript_94 cX6_233 ?_
                  refine r_ldivc (pc := 97) dX6_runScript_97 (by decide) ?_
                  refine r_lstore (pc := 98) dX6_runScript_98 (by rw [hnL]; decide) rfl ?_
                  refine r_lload_n (pc := 100) dX6_runScript_100 rfl rfl ?_
                  refine r_lload (pc := 101) dX6_runScript_101 rfl ?_
                  refine r_ldiv (pc := 103) dX6_runScript_103 h (fun h => ?_)
                  refine r_ldc2 (pc := 104) (v := 1000000) dX6_runScript_104 cX6_233 ?_
                  refine r_lremc (pc := 107) dX6_runScript_107 (by decide) ?_
                  refine r_l2i (pc := 108) dX6_runScript_108 ?_
                  refine r_istoreL (pc := 109) dX6_runScript_109 (by rw [hnL]; decide) h (fun x92 h => ?_)
                  refine r_aload_n (pc := 111) dX6_runScript_111 rfl rfl ?_
                  refine r_iload (pc := 112) dX6_runScript_112 rfl ?_
                  refine r_ldc (pc := 114) (v := 100000) dX6_runScript_114 cX6_235 ?_
                  refine r_idivc (pc := 116) dX6_runScript_116 (by decide) ?_
                  refine r_iload (pc := 117) dX6_runScript_117 rfl ?_
                  refine r_ldc (pc := 119) (v := 100000) dX6_runScript_119 cX6_235 ?_
                  refine r_iremc (pc := 121) dX6_runScript_121 (by decide) ?_
                  obtain ⟨m93, x94, q95, h⟩ := gCl_some h
                  refine r_callV (kd := 5) (pc := 122) [.int _, .int _] (tX6_command _ _ _ hF _ _ _ _ q95) ⟨rfl, rfl⟩ cd_X6_command wX6_236 nm_X6_command rfl (by rw [hRm]; decide) rfl (Nat.le_of_ble_eq_true rfl) rfl (by decide) (gO5 hF) dX6_runScript_122 ?_
                  refine r_if_ne (pc := 125) (tgt := 131) dX6_runScript_125 (by decide) h (fun h => ?_) (fun h => ?_)
                  · refine r_iinc (pc := 131) (d := 1) dX6_runScript_131 rfl (by decide) (by rw [hnL]; decide) h (fun x96 h => ?_)
                    refine r_goto (pc := 134) (tgt := 86) dX6_runScript_134 (by decide) ?_
                    exact r_mask [true, true, true, false, true, false, true, false] rfl (ih87 _ _ _ h)
                  · refine r_iload (pc := 128) dX6_runScript_128 rfl ?_
                    exact r_iretH dX6_runScript_130 h he
            exact r_mask [true, true, true, false, true, false, true, false] rfl (L88 _ _ _ _ h)
          · refine r_iconst (pc := 68) (v := 0) dX6_runScript_68 (by decide) ?_
            exact r_iretH dX6_runScript_69 h he
        · refine r_if_eq (pc := 42) (tgt := 61) dX6_runScript_42 (by decide) h (fun h => ?_) (fun h => ?_)
          · refine r_iconst (pc := 61) (v := 1) dX6_runScript_61 (by decide) ?_
            exact r_mask [true, true, true, false, true, false, false, false] rfl (hJ77 _ _ h)
          · refine r_lload_n (pc := 45) dX6_runScript_45 rfl rfl ?_
            refine r_lconst (pc := 46) (v := 0) dX6_runScript_46 (by decide) ?_
            refine r_lload (pc := 47) dX6_runScript_47 rfl ?_
            refine r_lconst (pc := 49) (v := 1) dX6_runScript_49 (by decide) ?_
            refine r_lsub (pc := 50) dX6_runScript_50 ?_
            obtain ⟨m97, x98, q99, h⟩ := gCl_some h
            refine r_callS (pc := 51) [.long _, .long _, .long _] (tX6_in _ _ _ hF _ _ _ _ _ q99) ⟨rfl, rfl⟩ cd_X6_in wX6_37 nm_X6_in rfl (by rw [hRm]; decide) rfl (Nat.le_of_ble_eq_true rfl) dX6_runScript_51 ?_
            refine r_if_eq (pc := 54) (tgt := 61) dX6_runScript_54 (by decide) h (fun h => ?_) (fun h => ?_)
            · refine r_iconst (pc := 61) (v := 1) dX6_runScript_61 (by decide) ?_
              exact r_mask [true, true, true, false, true, false, false, false] rfl (hJ77 _ _ h)
            · refine r_iconst (pc := 57) (v := 0) dX6_runScript_57 (by decide) ?_
              refine r_goto (pc := 58) (tgt := 62) dX6_runScript_58 (by decide) ?_
              exact r_mask [true, true, true, false, true, false, false, false] rfl (hJ77 _ _ h)
      · refine r_iload (pc := 12) dX6_runScript_12 rfl ?_
        refine r_iconst (pc := 14) (v := 3) dX6_runScript_14 (by decide) ?_
        refine r_icmp_ge (pc := 15) (tgt := 32) dX6_runScript_15 (by decide) h (fun h => ?_) (fun h => ?_)
        · refine r_aload_n (pc := 32) dX6_runScript_32 rfl rfl ?_
          refine r_iload_n (pc := 33) dX6_runScript_33 rfl rfl ?_
          refine r_i2l (pc := 34) dX6_runScript_34 ?_
          refine r_lconst (pc := 35) (v := 1) dX6_runScript_35 (by decide) ?_
          refine r_ldc2 (pc := 36) (v := 3) dX6_runScript_36 cX6_41 ?_
          obtain ⟨m100, x101, q102, h⟩ := gCl_some h
          refine r_callS (pc := 39) [.long _, .long _, .long _] (tX6_in _ _ _ hF _ _ _ _ _ q102) ⟨rfl, rfl⟩ cd_X6_in wX6_37 nm_X6_in rfl (by rw [hRm]; decide) rfl (Nat.le_of_ble_eq_true rfl) dX6_runScript_39 ?_
          refine r_jnK h (fun (k105 : Int32 → gM → Option (gM × Int32)) => ∀ (x103 : Int32) (m104 : gM), k105 x103 m104 = some o → AW Y cX6_runScript RX6 62 [some (.ref 5693), some (.int p1), some (.long p2), none, some (.long v68), none, none, none] [.int x103, .ref 5693] m104) (fun x103 m104 h => ?_) (fun k105 hJ106 h => ?_)
          · obtain ⟨m107, x108, q109, h⟩ := gCl_some h
            refine r_callV (kd := 5) (pc := 62) [.int _] (tX6_refused _ _ _ hF _ _ _ q109) ⟨rfl, rfl⟩ cd_X6_refused wX6_108 nm_X6_refused rfl (by rw [hRm]; decide) rfl (Nat.le_of_ble_eq_true rfl) rfl (by decide) (gO5 hF) dX6_runScript_62 ?_
            refine r_if_eq (pc := 65) (tgt := 70) dX6_runScript_65 (by decide) h (fun h => ?_) (fun h => ?_)
            · refine r_aload_n (pc := 70) dX6_runScript_70 rfl rfl ?_
              refine fX6_13 (pc := 71) hF dX6_runScript_71 (fun b110 => ?_)
              refine r_iconst (pc := 74) (v := 0) dX6_runScript_74 (by decide) ?_
              refine r_aload_n (pc := 75) dX6_runScript_75 rfl rfl ?_
              refine fX6_16 (pc := 76) hF dX6_runScript_76 (fun b111 => ?_)
              refine r_iconst (pc := 79) (v := 0) dX6_runScript_79 (by decide) ?_
              obtain ⟨m112, q114, h⟩ := gCv_some h
              refine r_callS (pc := 80) [.ref _, .int _, .ref _, .int _] (tX6_copyState _ _ _ hF _ _ _ _ _ _ _ _ q114 b110 b111) ⟨rfl, rfl⟩ cd_X6_copyState wX6_183 nm_X6_copyState rfl (by rw [hRm]; decide) rfl (Nat.le_of_ble_eq_true rfl) dX6_runScript_80 ?_
              refine r_iconst (pc := 83) (v := 0) dX6_runScript_83 (by decide) ?_
              refine r_istore (pc := 84) dX6_runScript_84 (by rw [hnL]; decide) rfl ?_
              have L117 : ∀ (n115 : Nat) (v118 : Int64) (v119 : Int32) (m120 : gM), fX6_runScript_L86 p1 p2 (fX6_runScript_L6 p1 p2 n65) n115 v118 v119 m120 = some o → AW Y cX6_runScript RX6 86 [some (.ref 5693), some (.int p1), some (.long p2), none, some (.long v118), none, some (.int v119), none] [] m120 := by
                intro n115
                induction n115 with
                | zero =>
                  intro v118 v119 m120 h
                  exact absurd h (by simp [fX6_runScript_L86])
                | succ n115 ih116 =>
                  intro v118 v119 m120 h
                  rw [fX6_runScript_L86] at h
                  refine r_iload (pc := 86) dX6_runScript_86 rfl ?_
                  refine r_iload_n (pc := 88) dX6_runScript_88 rfl rfl ?_
                  refine r_icmp_ge (pc := 89) (tgt := 137) dX6_runScript_89 (by decide) h (fun h => ?_) (fun h => ?_)
                  · refine r_iconst (pc := 137) (v := (-1)) dX6_runScript_137 (by decide) ?_
                    exact r_iretH dX6_runScript_138 h he
                  · refine r_lload (pc := 92) dX6_runScript_92 rfl ?_
                    refine r_ldc2 (pc := 94) (v := 1000000) dX6_runScript_94 cX6_233 ?_
                    refine r_ldivc (pc := 97) dX6_runScript_97 (by decide) ?_
                    refine r_lstore (pc := 98) dX6_runScript_98 (by rw [hnL]; decide) rfl ?_
                    refine r_lload_n (pc := 100) dX6_runScript_100 rfl rfl ?_
                    refine r_lload (pc := 101) dX6_runScript_101 rfl ?_
                    refine r_ldiv (pc := 103) dX6_runScript_103 h (fun h => ?_)
                    refine r_ldc2 (pc := 104) (v := 1000000) dX6_runScript_104 cX6_233 ?_
                    refine r_lremc (pc := 107) dX6_runScript_107 (by decide) ?_
                    refine r_l2i (pc := 108) dX6_runScript_108 ?_
                    refine r_istoreL (pc := 109) dX6_runScript_109 (by rw [hnL]; decide) h (fun x121 h => ?_)
                    refine r_aload_n (pc := 111) dX6_runScript_111 rfl rfl ?_
                    refine r_iload (pc := 112) dX6_runScript_112 rfl ?_
                    refine r_ldc (pc := 114) (v := 100000) dX6_runScript_114 cX6_235 ?_
                    refine r_idivc (pc := 116) dX6_runScript_116 (by decide) ?_
                    refine r_iload (pc := 117) dX6_runScript_117 rfl ?_
                    refine r_ldc (pc := 119) (v := 100000) dX6_runScript_119 cX6_235 ?_
                    refine r_iremc (pc := 121) dX6_runScript_121 (by decide) ?_
                    obtain ⟨m122, x123, q124, h⟩ := gCl_some h
                    refine r_callV (kd := 5) (pc := 122) [.int _, .int _] (tX6_command _ _ _ hF _ _ _ _ q124) ⟨rfl, rfl⟩ cd_X6_command wX6_236 nm_X6_command rfl (by rw [hRm]; decide) rfl (Nat.le_of_ble_eq_true rfl) rfl (by decide) (gO5 hF) dX6_runScript_122 ?_
                    refine r_if_ne (pc := 125) (tgt := 131) dX6_runScript_125 (by decide) h (fun h => ?_) (fun h => ?_)
                    · refine r_iinc (pc := 131) (d := 1) dX6_runScript_131 rfl (by decide) (by rw [hnL]; decide) h (fun x125 h => ?_)
                      refine r_goto (pc := 134) (tgt := 86) dX6_runScript_134 (by decide) ?_
                      exact r_mask [true, true, true, false, true, false, true, false] rfl (ih116 _ _ _ h)
                    · refine r_iload (pc := 128) dX6_runScript_128 rfl ?_
                      exact r_iretH dX6_runScript_130 h he
              exact r_mask [true, true, true, false, true, false, true, false] rfl (L117 _ _ _ _ h)
            · refine r_iconst (pc := 68) (v := 0) dX6_runScript_68 (by decide) ?_
              exact r_iretH dX6_runScript_69 h he
          · refine r_if_eq (pc := 42) (tgt := 61) dX6_runScript_42 (by decide) h (fun h => ?_) (fun h => ?_)
            · refine r_iconst (pc := 61) (v := 1) dX6_runScript_61 (by decide) ?_
              exact r_mask [true, true, true, false, true, false, false, false] rfl (hJ106 _ _ h)
            · refine r_lload_n (pc := 45) dX6_runScript_45 rfl rfl ?_
              refine r_lconst (pc := 46) (v := 0) dX6_runScript_46 (by decide) ?_
              refine r_lload (pc := 47) dX6_runScript_47 rfl ?_
              refine r_lconst (pc := 49) (v := 1) dX6_runScript_49 (by decide) ?_
              refine r_lsub (pc := 50) dX6_runScript_50 ?_
              obtain ⟨m126, x127, q128, h⟩ := gCl_some h
              refine r_callS (pc := 51) [.long _, .long _, .long _] (tX6_in _ _ _ hF _ _ _ _ _ q128) ⟨rfl, rfl⟩ cd_X6_in wX6_37 nm_X6_in rfl (by rw [hRm]; decide) rfl (Nat.le_of_ble_eq_true rfl) dX6_runScript_51 ?_
              refine r_if_eq (pc := 54) (tgt := 61) dX6_runScript_54 (by decide) h (fun h => ?_) (fun h => ?_)
              · refine r_iconst (pc := 61) (v := 1) dX6_runScript_61 (by decide) ?_
                exact r_mask [true, true, true, false, true, false, false, false] rfl (hJ106 _ _ h)
              · refine r_iconst (pc := 57) (v := 0) dX6_runScript_57 (by decide) ?_
                refine r_goto (pc := 58) (tgt := 62) dX6_runScript_58 (by decide) ?_
                exact r_mask [true, true, true, false, true, false, false, false] rfl (hJ106 _ _ h)
        · refine r_lload (pc := 18) dX6_runScript_18 rfl ?_
          refine r_ldc2 (pc := 20) (v := 1000000) dX6_runScript_20 cX6_233 ?_
          refine r_lmul (pc := 23) dX6_runScript_23 ?_
          refine r_lstore (pc := 24) dX6_runScript_24 (by rw [hnL]; decide) rfl ?_
          refine r_iinc (pc := 26) (d := 1) dX6_runScript_26 rfl (by decide) (by rw [hnL]; decide) h (fun x129 h => ?_)
          refine r_goto (pc := 29) (tgt := 6) dX6_runScript_29 (by decide) ?_
          exact r_mask [true, true, true, false, true, false, true, false] rfl (ih66 _ _ _ h)
  exact r_mask [true, true, true, false, true, false, true, false] rfl (L67 _ _ _ _ h)
set_option maxHeartbeats 4000000 in
set_option maxRecDepth 100000 in
theorem tX6_turnCustomer (l : Launch) (G : gX) (u : gU) (hF : gFull u) (a1 a1n : Nat) (p2 : Int32) (p3 : Int32) (m : gM) (o : gM) (h : fX6_turnCustomer a1 a1n p2 p3 m = some o) (h1 : gIn u a1 7 a1n) : gMet l G u yX6_turnCustomer (.code yX6_turnCustomer cX6_turnCustomer 5 none) rmX6_turnCustomer [.ref a1, .int p2, .int p3] m o none := by
  refine gMet_of (own := RX6) (k := 2) (by decide) rfl ⟨rfl, rfl⟩ (Nat.le_of_ble_eq_true rfl) [some (.ref a1), some (.int p2), some (.int p3), none, none] rfl (fun Y hG hu hnL hLn hRm he => ?_)
  subst hG hu hLn
  unfold fX6_turnCustomer at h
  refine r_iload_n (pc := 0) dX6_turnCustomer_0 rfl rfl ?_
  refine r_bipush (pc := 1) (v := 10) dX6_turnCustomer_1 (by decide) ?_
  refine r_iremc (pc := 3) dX6_turnCustomer_3 (by decide) ?_
  refine r_istore_nL (pc := 4) dX6_turnCustomer_4 rfl (by rw [hnL]; decide) h (fun x1 h => ?_)
  refine r_iload_n (pc := 5) dX6_turnCustomer_5 rfl rfl ?_
  refine r_if_ne (pc := 6) (tgt := 34) dX6_turnCustomer_6 (by decide) h (fun h => ?_) (fun h => ?_)
  · refine r_aload_n (pc := 34) dX6_turnCustomer_34 rfl rfl ?_
    refine r_iload_n (pc := 35) dX6_turnCustomer_35 rfl rfl ?_
    obtain ⟨m2, x3, q4, h⟩ := gCl_some h
    refine r_callS (pc := 36) [.ref _, .int _] (tX6_isCustomer _ _ _ hF _ _ _ _ _ q4 h1) ⟨rfl, rfl⟩ cd_X6_isCustomer wX6_139 nm_X6_isCustomer rfl (by rw [hRm]; decide) rfl (Nat.le_of_ble_eq_true rfl) dX6_turnCustomer_36 ?_
    refine r_if_ne (pc := 39) (tgt := 43) dX6_turnCustomer_39 (by decide) h (fun h => ?_) (fun h => ?_)
    · refine r_iload_n (pc := 43) dX6_turnCustomer_43 rfl rfl ?_
      refine r_iconst (pc := 44) (v := 1) dX6_turnCustomer_44 (by decide) ?_
      refine r_icmp_ne (pc := 45) (tgt := 72) dX6_turnCustomer_45 (by decide) h (fun h => ?_) (fun h => ?_)
      · refine r_aload_n (pc := 72) dX6_turnCustomer_72 rfl rfl ?_
        refine r_iconst (pc := 73) (v := 1) dX6_turnCustomer_73 (by decide) ?_
        refine r_iald (pc := 74) dX6_turnCustomer_74 h1 h (fun x5 h => ?_)
        refine r_iload_n (pc := 75) dX6_turnCustomer_75 rfl rfl ?_
        refine r_bipush (pc := 76) (v := 16) dX6_turnCustomer_76 (by decide) ?_
        refine r_idivc (pc := 78) dX6_turnCustomer_78 (by decide) ?_
        refine r_bipush (pc := 79) (v := 20) dX6_turnCustomer_79 (by decide) ?_
        refine r_iremc (pc := 81) dX6_turnCustomer_81 (by decide) ?_
        refine r_iadd (pc := 82) dX6_turnCustomer_82 ?_
        refine r_istoreL (pc := 83) dX6_turnCustomer_83 (by rw [hnL]; decide) h (fun x6 h => ?_)
        refine r_iload (pc := 85) dX6_turnCustomer_85 rfl ?_
        refine r_iload (pc := 87) dX6_turnCustomer_87 rfl ?_
        refine r_iload_n (pc := 89) dX6_turnCustomer_89 rfl rfl ?_
        refine r_sipush (pc := 90) (v := 512) dX6_turnCustomer_90 (by decide) ?_
        refine r_idivc (pc := 93) dX6_turnCustomer_93 (by decide) ?_
        refine r_bipush (pc := 94) (v := 9) dX6_turnCustomer_94 (by decide) ?_
        refine r_iremc (pc := 96) dX6_turnCustomer_96 (by decide) ?_
        refine r_iadd (pc := 97) dX6_turnCustomer_97 ?_
        obtain ⟨m7, x8, q9, h⟩ := gCl_some h
        refine r_callS (pc := 98) [.int _, .int _] (tX6_isSpan _ _ _ hF _ _ _ _ q9) ⟨rfl, rfl⟩ cd_X6_isSpan wX6_217 nm_X6_isSpan rfl (by rw [hRm]; decide) rfl (Nat.le_of_ble_eq_true rfl) dX6_turnCustomer_98 ?_
        refine r_if_eq (pc := 101) (tgt := 134) dX6_turnCustomer_101 (by decide) h (fun h => ?_) (fun h => ?_)
        · exact r_vretH dX6_turnCustomer_134 h he
        · refine r_aload_n (pc := 104) dX6_turnCustomer_104 rfl rfl ?_
          refine r_iload_n (pc := 105) dX6_turnCustomer_105 rfl rfl ?_
          refine r_bipush (pc := 106) (v := 14) dX6_turnCustomer_106 (by decide) ?_
          obtain ⟨m10, x11, q12, h⟩ := gCl_some h
          refine r_callS (pc := 108) [.ref _, .int _, .int _] (tX6_of _ _ _ hF _ _ _ _ _ _ q12 h1) ⟨rfl, rfl⟩ cd_X6_of wX6_53 nm_X6_of rfl (by rw [hRm]; decide) rfl (Nat.le_of_ble_eq_true rfl) dX6_turnCustomer_108 ?_
          refine r_iconst (pc := 111) (v := 3) dX6_turnCustomer_111 (by decide) ?_
          refine r_icmp_ge (pc := 112) (tgt := 134) dX6_turnCustomer_112 (by decide) h (fun h => ?_) (fun h => ?_)
          · exact r_vretH dX6_turnCustomer_134 h he
          · refine r_aload_n (pc := 115) dX6_turnCustomer_115 rfl rfl ?_
            refine r_iload_n (pc := 116) dX6_turnCustomer_116 rfl rfl ?_
            refine r_iload (pc := 117) dX6_turnCustomer_117 rfl ?_
            refine r_iload (pc := 119) dX6_turnCustomer_119 rfl ?_
            refine r_iload_n (pc := 121) dX6_turnCustomer_121 rfl rfl ?_
            refine r_sipush (pc := 122) (v := 512) dX6_turnCustomer_122 (by decide) ?_
            refine r_idivc (pc := 125) dX6_turnCustomer_125 (by decide) ?_
            refine r_bipush (pc := 126) (v := 9) dX6_turnCustomer_126 (by decide) ?_
            refine r_iremc (pc := 128) dX6_turnCustomer_128 (by decide) ?_
            refine r_iadd (pc := 129) dX6_turnCustomer_129 ?_
            obtain ⟨m13, x14, q15, h⟩ := gCl_some h
            refine r_callS (pc := 130) [.ref _, .int _, .int _, .int _] (tX6_holidayOn _ _ _ hF _ _ _ _ _ _ _ q15 h1) ⟨rfl, rfl⟩ cd_X6_holidayOn wX6_146 nm_X6_holidayOn rfl (by rw [hRm]; decide) rfl (Nat.le_of_ble_eq_true rfl) dX6_turnCustomer_130 ?_
            refine r_pop (pc := 133) dX6_turnCustomer_133 rfl ?_
            exact r_vretH dX6_turnCustomer_134 h he
      · refine r_aload_n (pc := 48) dX6_turnCustomer_48 rfl rfl ?_
        refine r_iload_n (pc := 49) dX6_turnCustomer_49 rfl rfl ?_
        refine r_iload_n (pc := 50) dX6_turnCustomer_50 rfl rfl ?_
        refine r_bipush (pc := 51) (v := 16) dX6_turnCustomer_51 (by decide) ?_
        refine r_idivc (pc := 53) dX6_turnCustomer_53 (by decide) ?_
        refine r_bipush (pc := 54) (v := 7) dX6_turnCustomer_54 (by decide) ?_
        refine r_iremc (pc := 56) dX6_turnCustomer_56 (by decide) ?_
        refine r_iload_n (pc := 57) dX6_turnCustomer_57 rfl rfl ?_
        refine r_sipush (pc := 58) (v := 128) dX6_turnCustomer_58 (by decide) ?_
        refine r_idivc (pc := 61) dX6_turnCustomer_61 (by decide) ?_
        refine r_bipush (pc := 62) (v := 10) dX6_turnCustomer_62 (by decide) ?_
        refine r_iremc (pc := 64) dX6_turnCustomer_64 (by decide) ?_
        obtain ⟨m16, x17, q18, h⟩ := gCl_some h
        refine r_callS (pc := 65) [.ref _, .int _, .int _, .int _] (tX6_changeOn _ _ _ hF _ _ _ _ _ _ _ q18 h1) ⟨rfl, rfl⟩ cd_X6_changeOn wX6_143 nm_X6_changeOn rfl (by rw [hRm]; decide) rfl (Nat.le_of_ble_eq_true rfl) dX6_turnCustomer_65 ?_
        refine r_pop (pc := 68) dX6_turnCustomer_68 rfl ?_
        refine r_goto (pc := 69) (tgt := 134) dX6_turnCustomer_69 (by decide) ?_
        exact r_vretH dX6_turnCustomer_134 h he
    · exact r_vretH dX6_turnCustomer_42 h he
  · refine r_aload_n (pc := 9) dX6_turnCustomer_9 rfl rfl ?_
    refine r_iconst (pc := 10) (v := 0) dX6_turnCustomer_10 (by decide) ?_
    refine r_iald (pc := 11) dX6_turnCustomer_11 h1 h (fun x19 h => ?_)
    refine r_bipush (pc := 12) (v := 10) dX6_turnCustomer_12 (by decide) ?_
    refine r_icmp_ge (pc := 14) (tgt := 134) dX6_turnCustomer_14 (by decide) h (fun h => ?_) (fun h => ?_)
    · exact r_vretH dX6_turnCustomer_134 h he
    · refine r_aload_n (pc := 17) dX6_turnCustomer_17 rfl rfl ?_
      refine r_iload_n (pc := 18) dX6_turnCustomer_18 rfl rfl ?_
      refine r_iconst (pc := 19) (v := 4) dX6_turnCustomer_19 (by decide) ?_
      refine r_iremc (pc := 20) dX6_turnCustomer_20 (by decide) ?_
      refine r_iload_n (pc := 21) dX6_turnCustomer_21 rfl rfl ?_
      refine r_iconst (pc := 22) (v := 4) dX6_turnCustomer_22 (by decide) ?_
      refine r_idivc (pc := 23) dX6_turnCustomer_23 (by decide) ?_
      refine r_ldc (pc := 24) (v := 10000000) dX6_turnCustomer_24 cX6_239 ?_
      refine r_iremc (pc := 26) dX6_turnCustomer_26 (by decide) ?_
      obtain ⟨m20, x21, q22, h⟩ := gCl_some h
      refine r_callS (pc := 27) [.ref _, .int _, .int _] (tX6_customerOn _ _ _ hF _ _ _ _ _ _ q22 h1) ⟨rfl, rfl⟩ cd_X6_customerOn wX6_128 nm_X6_customerOn rfl (by rw [hRm]; decide) rfl (Nat.le_of_ble_eq_true rfl) dX6_turnCustomer_27 ?_
      refine r_pop (pc := 30) dX6_turnCustomer_30 rfl ?_
      refine r_goto (pc := 31) (tgt := 134) dX6_turnCustomer_31 (by decide) ?_
      exact r_vretH dX6_turnCustomer_134 h he
set_option maxHeartbeats 4000000 in
set_option maxRecDepth 100000 in
theorem tX6_turnOf (l : Launch) (G : gX) (u : gU) (hF : gFull u) (a1 a1n : Nat) (p2 : Int32) (p3 : Int32) (m : gM) (o : gM) (h : fX6_turnOf a1 a1n p2 p3 m = some o) (h1 : gIn u a1 7 a1n) : gMet l G u yX6_turnOf (.code yX6_turnOf cX6_turnOf 3 none) rmX6_turnOf [.ref a1, .int p2, .int p3] m o none := by
  refine gMet_of (own := RX6) (k := 0) (by decide) rfl ⟨rfl, rfl⟩ (Nat.le_of_ble_eq_true rfl) [some (.ref a1), some (.int p2), some (.int p3)] rfl (fun Y hG hu hnL hLn hRm he => ?_)
  subst hG hu hLn
  unfold fX6_turnOf at h
  refine r_iload_n (pc := 0) dX6_turnOf_0 rfl rfl ?_
  refine r_iconst (pc := 1) (v := 3) dX6_turnOf_1 (by decide) ?_
  refine r_icmp_ge (pc := 2) (tgt := 14) dX6_turnOf_2 (by decide) h (fun h => ?_) (fun h => ?_)
  · refine r_iload_n (pc := 14) dX6_turnOf_14 rfl rfl ?_
    refine r_iconst (pc := 15) (v := 3) dX6_turnOf_15 (by decide) ?_
    refine r_icmp_ne (pc := 16) (tgt := 50) dX6_turnOf_16 (by decide) h (fun h => ?_) (fun h => ?_)
    · refine r_iload_n (pc := 50) dX6_turnOf_50 rfl rfl ?_
      refine r_iconst (pc := 51) (v := 4) dX6_turnOf_51 (by decide) ?_
      refine r_icmp_ne (pc := 52) (tgt := 71) dX6_turnOf_52 (by decide) h (fun h => ?_) (fun h => ?_)
      · refine r_iload_n (pc := 71) dX6_turnOf_71 rfl rfl ?_
        refine r_iconst (pc := 72) (v := 5) dX6_turnOf_72 (by decide) ?_
        refine r_icmp_le (pc := 73) (tgt := 90) dX6_turnOf_73 (by decide) h (fun h => ?_) (fun h => ?_)
        · refine r_iload_n (pc := 90) dX6_turnOf_90 rfl rfl ?_
          refine r_sipush (pc := 91) (v := 128) dX6_turnOf_91 (by decide) ?_
          refine r_idivc (pc := 94) dX6_turnOf_94 (by decide) ?_
          refine r_iconst (pc := 95) (v := 2) dX6_turnOf_95 (by decide) ?_
          refine r_iremc (pc := 96) dX6_turnOf_96 (by decide) ?_
          refine r_if_ne (pc := 97) (tgt := 111) dX6_turnOf_97 (by decide) h (fun h => ?_) (fun h => ?_)
          · refine r_iconst (pc := 111) (v := 1) dX6_turnOf_111 (by decide) ?_
            refine r_iload_n (pc := 112) dX6_turnOf_112 rfl rfl ?_
            refine r_iconst (pc := 113) (v := 3) dX6_turnOf_113 (by decide) ?_
            refine r_iremc (pc := 114) dX6_turnOf_114 (by decide) ?_
            refine r_iadd (pc := 115) dX6_turnOf_115 ?_
            refine r_iload_n (pc := 116) dX6_turnOf_116 rfl rfl ?_
            refine r_iconst (pc := 117) (v := 4) dX6_turnOf_117 (by decide) ?_
            refine r_idivc (pc := 118) dX6_turnOf_118 (by decide) ?_
            refine r_bipush (pc := 119) (v := 10) dX6_turnOf_119 (by decide) ?_
            refine r_iremc (pc := 121) dX6_turnOf_121 (by decide) ?_
            obtain ⟨m1, x2, q3, h⟩ := gCl_some h
            refine r_callS (pc := 122) [.int _, .int _] (tX6_isSetting _ _ _ hF _ _ _ _ q3) ⟨rfl, rfl⟩ cd_X6_isSetting wX6_169 nm_X6_isSetting rfl (by rw [hRm]; decide) rfl (Nat.le_of_ble_eq_true rfl) dX6_turnOf_122 ?_
            refine r_if_eq (pc := 125) (tgt := 142) dX6_turnOf_125 (by decide) h (fun h => ?_) (fun h => ?_)
            · exact r_vretH dX6_turnOf_142 h he
            · refine r_aload_n (pc := 128) dX6_turnOf_128 rfl rfl ?_
              refine r_bipush (pc := 129) (v := 12) dX6_turnOf_129 (by decide) ?_
              refine r_iload_n (pc := 131) dX6_turnOf_131 rfl rfl ?_
              refine r_iconst (pc := 132) (v := 3) dX6_turnOf_132 (by decide) ?_
              refine r_iremc (pc := 133) dX6_turnOf_133 (by decide) ?_
              refine r_iadd (pc := 134) dX6_turnOf_134 ?_
              refine r_iload_n (pc := 135) dX6_turnOf_135 rfl rfl ?_
              refine r_iconst (pc := 136) (v := 4) dX6_turnOf_136 (by decide) ?_
              refine r_idivc (pc := 137) dX6_turnOf_137 (by decide) ?_
              refine r_bipush (pc := 138) (v := 10) dX6_turnOf_138 (by decide) ?_
              refine r_iremc (pc := 140) dX6_turnOf_140 (by decide) ?_
              refine r_iast (pc := 141) dX6_turnOf_141 h1 h (fun m4 h => ?_)
              exact r_vretH dX6_turnOf_142 h he
          · refine r_aload_n (pc := 100) dX6_turnOf_100 rfl rfl ?_
            refine r_bipush (pc := 101) (v := 11) dX6_turnOf_101 (by decide) ?_
            refine r_iload_n (pc := 103) dX6_turnOf_103 rfl rfl ?_
            refine r_bipush (pc := 104) (v := 100) dX6_turnOf_104 (by decide) ?_
            refine r_iremc (pc := 106) dX6_turnOf_106 (by decide) ?_
            refine r_iast (pc := 107) dX6_turnOf_107 h1 h (fun m5 h => ?_)
            refine r_goto (pc := 108) (tgt := 142) dX6_turnOf_108 (by decide) ?_
            exact r_vretH dX6_turnOf_142 h he
        · refine r_aload_n (pc := 76) dX6_turnOf_76 rfl rfl ?_
          refine r_iconst (pc := 77) (v := 1) dX6_turnOf_77 (by decide) ?_
          refine r_iload_n (pc := 78) dX6_turnOf_78 rfl rfl ?_
          refine r_bipush (pc := 79) (v := 9) dX6_turnOf_79 (by decide) ?_
          refine r_iremc (pc := 81) dX6_turnOf_81 (by decide) ?_
          refine r_iadd (pc := 82) dX6_turnOf_82 ?_
          obtain ⟨m6, x7, q8, h⟩ := gCl_some h
          refine r_callS (pc := 83) [.ref _, .int _] (tX6_daysOn _ _ _ hF _ _ _ _ _ q8 h1) ⟨rfl, rfl⟩ cd_X6_daysOn wX6_173 nm_X6_daysOn rfl (by rw [hRm]; decide) rfl (Nat.le_of_ble_eq_true rfl) dX6_turnOf_83 ?_
          refine r_pop (pc := 86) dX6_turnOf_86 rfl ?_
          refine r_goto (pc := 87) (tgt := 142) dX6_turnOf_87 (by decide) ?_
          exact r_vretH dX6_turnOf_142 h he
      · refine r_aload_n (pc := 55) dX6_turnOf_55 rfl rfl ?_
        refine r_iload_n (pc := 56) dX6_turnOf_56 rfl rfl ?_
        refine r_iconst (pc := 57) (v := 4) dX6_turnOf_57 (by decide) ?_
        refine r_iremc (pc := 58) dX6_turnOf_58 (by decide) ?_
        refine r_iload_n (pc := 59) dX6_turnOf_59 rfl rfl ?_
        refine r_iconst (pc := 60) (v := 4) dX6_turnOf_60 (by decide) ?_
        refine r_idivc (pc := 61) dX6_turnOf_61 (by decide) ?_
        refine r_iconst (pc := 62) (v := 4) dX6_turnOf_62 (by decide) ?_
        refine r_iremc (pc := 63) dX6_turnOf_63 (by decide) ?_
        obtain ⟨m9, x10, q11, h⟩ := gCl_some h
        refine r_callS (pc := 64) [.ref _, .int _, .int _] (tX6_swapOn _ _ _ hF _ _ _ _ _ _ q11 h1) ⟨rfl, rfl⟩ cd_X6_swapOn wX6_166 nm_X6_swapOn rfl (by rw [hRm]; decide) rfl (Nat.le_of_ble_eq_true rfl) dX6_turnOf_64 ?_
        refine r_pop (pc := 67) dX6_turnOf_67 rfl ?_
        refine r_goto (pc := 68) (tgt := 142) dX6_turnOf_68 (by decide) ?_
        exact r_vretH dX6_turnOf_142 h he
    · refine r_aload_n (pc := 19) dX6_turnOf_19 rfl rfl ?_
      refine r_iload_n (pc := 20) dX6_turnOf_20 rfl rfl ?_
      refine r_iconst (pc := 21) (v := 4) dX6_turnOf_21 (by decide) ?_
      refine r_iremc (pc := 22) dX6_turnOf_22 (by decide) ?_
      refine r_iload_n (pc := 23) dX6_turnOf_23 rfl rfl ?_
      refine r_iconst (pc := 24) (v := 4) dX6_turnOf_24 (by decide) ?_
      refine r_idivc (pc := 25) dX6_turnOf_25 (by decide) ?_
      refine r_bipush (pc := 26) (v := 7) dX6_turnOf_26 (by decide) ?_
      refine r_iremc (pc := 28) dX6_turnOf_28 (by decide) ?_
      refine r_iload_n (pc := 29) dX6_turnOf_29 rfl rfl ?_
      refine r_bipush (pc := 30) (v := 32) dX6_turnOf_30 (by decide) ?_
      refine r_idivc (pc := 32) dX6_turnOf_32 (by decide) ?_
      refine r_iconst (pc := 33) (v := 3) dX6_turnOf_33 (by decide) ?_
      refine r_iremc (pc := 34) dX6_turnOf_34 (by decide) ?_
      refine r_jn1 h (fun x12 => AW Y cX6_turnOf RX6 43 [none, none, none] [.int x12, .int ((p3 / 4) - (p3 / 4) / 7 * 7), .int (p3 - p3 / 4 * 4), .ref a1] m) (fun x12 h => ?_) (fun hJ13 => ?_)
      · obtain ⟨m15, x16, q17, h⟩ := gCl_some h
        refine r_callS (pc := 43) [.ref _, .int _, .int _, .int _] (tX6_closeOn _ _ _ hF _ _ _ _ _ _ _ q17 h1) ⟨rfl, rfl⟩ cd_X6_closeOn wX6_149 nm_X6_closeOn rfl (by rw [hRm]; decide) rfl (Nat.le_of_ble_eq_true rfl) dX6_turnOf_43 ?_
        refine r_pop (pc := 46) dX6_turnOf_46 rfl ?_
        refine r_goto (pc := 47) (tgt := 142) dX6_turnOf_47 (by decide) ?_
        exact r_vretH dX6_turnOf_142 h he
      · refine r_ifC_ne (pc := 35) (tgt := 42) dX6_turnOf_35 (by decide) (fun g14 => ?_) (fun g14 => ?_)
        · refine r_iconst (pc := 42) (v := 0) dX6_turnOf_42 (by decide) ?_
          exact r_mask [false, false, false] rfl (hJ13 _ (by rw [if_neg g14]))
        · refine r_iconst (pc := 38) (v := 1) dX6_turnOf_38 (by decide) ?_
          refine r_goto (pc := 39) (tgt := 43) dX6_turnOf_39 (by decide) ?_
          exact r_mask [false, false, false] rfl (hJ13 _ (by rw [if_pos g14]))
  · refine r_aload_n (pc := 5) dX6_turnOf_5 rfl rfl ?_
    refine r_iload_n (pc := 6) dX6_turnOf_6 rfl rfl ?_
    refine r_iload_n (pc := 7) dX6_turnOf_7 rfl rfl ?_
    obtain ⟨m18, q20, h⟩ := gCv_some h
    refine r_callS (pc := 8) [.ref _, .int _, .int _] (tX6_turnCustomer _ _ _ hF _ _ _ _ _ _ q20 h1) ⟨rfl, rfl⟩ cd_X6_turnCustomer wX6_240 nm_X6_turnCustomer rfl (by rw [hRm]; decide) rfl (Nat.le_of_ble_eq_true rfl) dX6_turnOf_8 ?_
    refine r_goto (pc := 11) (tgt := 142) dX6_turnOf_11 (by decide) ?_
    exact r_vretH dX6_turnOf_142 h he
set_option maxHeartbeats 4000000 in
set_option maxRecDepth 100000 in
theorem tX6_simulate (l : Launch) (G : gX) (u : gU) (hF : gFull u) (p1 : Int64) (p2 : Int32) (m : gM) (o : gM × Int32) (h : fX6_simulate p1 p2 m = some o)  : gMet l G u yX6_simulate (.code yX6_simulate cX6_simulate 8 (some .int)) rmX6_simulate [.ref 5693, .long p1, .int p2] m o.1 (some (.int o.2)) := by
  refine gMet_of (own := RX6) (k := 4) (by decide) rfl ⟨rfl, rfl⟩ (Nat.le_of_ble_eq_true rfl) [some (.ref 5693), some (.long p1), none, some (.int p2), none, none, none, none] rfl (fun Y hG hu hnL hLn hRm he => ?_)
  subst hG hu hLn
  unfold fX6_simulate at h
  refine r_aload_n (pc := 0) dX6_simulate_0 rfl rfl ?_
  refine r_iload_n (pc := 1) dX6_simulate_1 rfl rfl ?_
  refine r_i2l (pc := 2) dX6_simulate_2 ?_
  refine r_lconst (pc := 3) (v := 1) dX6_simulate_3 (by decide) ?_
  refine r_ldc2 (pc := 4) (v := 60) dX6_simulate_4 cX6_223 ?_
  obtain ⟨m1, x2, q3, h⟩ := gCl_some h
  refine r_callS (pc := 7) [.long _, .long _, .long _] (tX6_in _ _ _ hF _ _ _ _ _ q3) ⟨rfl, rfl⟩ cd_X6_in wX6_37 nm_X6_in rfl (by rw [hRm]; decide) rfl (Nat.le_of_ble_eq_true rfl) dX6_simulate_7 ?_
  refine r_jn1 h (fun x4 => AW Y cX6_simulate RX6 18 [some (.ref 5693), some (.long p1), none, some (.int p2), none, none, none, none] [.int x4, .ref 5693] m1) (fun x4 h => ?_) (fun hJ5 => ?_)
  · obtain ⟨m7, x8, q9, h⟩ := gCl_some h
    refine r_callV (kd := 5) (pc := 18) [.int _] (tX6_refused _ _ _ hF _ _ _ q9) ⟨rfl, rfl⟩ cd_X6_refused wX6_108 nm_X6_refused rfl (by rw [hRm]; decide) rfl (Nat.le_of_ble_eq_true rfl) rfl (by decide) (gO5 hF) dX6_simulate_18 ?_
    refine r_if_eq (pc := 21) (tgt := 26) dX6_simulate_21 (by decide) h (fun h => ?_) (fun h => ?_)
    · refine r_aload_n (pc := 26) dX6_simulate_26 rfl rfl ?_
      refine fX6_13 (pc := 27) hF dX6_simulate_27 (fun b10 => ?_)
      refine r_iconst (pc := 30) (v := 0) dX6_simulate_30 (by decide) ?_
      refine r_aload_n (pc := 31) dX6_simulate_31 rfl rfl ?_
      refine fX6_16 (pc := 32) hF dX6_simulate_32 (fun b11 => ?_)
      refine r_iconst (pc := 35) (v := 0) dX6_simulate_35 (by decide) ?_
      obtain ⟨m12, q14, h⟩ := gCv_some h
      refine r_callS (pc := 36) [.ref _, .int _, .ref _, .int _] (tX6_copyState _ _ _ hF _ _ _ _ _ _ _ _ q14 b10 b11) ⟨rfl, rfl⟩ cd_X6_copyState wX6_183 nm_X6_copyState rfl (by rw [hRm]; decide) rfl (Nat.le_of_ble_eq_true rfl) dX6_simulate_36 ?_
      refine r_lload_n (pc := 39) dX6_simulate_39 rfl rfl ?_
      refine r_lstore (pc := 40) dX6_simulate_40 (by rw [hnL]; decide) rfl ?_
      refine r_iconst (pc := 42) (v := 0) dX6_simulate_42 (by decide) ?_
      refine r_istore (pc := 43) dX6_simulate_43 (by rw [hnL]; decide) rfl ?_
      have L31 : ∀ (n29 : Nat) (v32 : Int64) (v33 : Int32) (m34 : gM), fX6_simulate_L45 p2 n29 v32 v33 m34 = some o → AW Y cX6_simulate RX6 45 [some (.ref 5693), none, none, some (.int p2), some (.long v32), none, some (.int v33), none] [] m34 := by
        intro n29
        induction n29 with
        | zero =>
          intro v32 v33 m34 h
          exact absurd h (by simp [fX6_simulate_L45])
        | succ n29 ih30 =>
          intro v32 v33 m34 h
          rw [fX6_simulate_L45] at h
          refine r_iload (pc := 45) dX6_simulate_45 rfl ?_
          refine r_iload_n (pc := 47) dX6_simulate_47 rfl rfl ?_
          refine r_icmp_ge (pc := 48) (tgt := 94) dX6_simulate_48 (by decide) h (fun h => ?_) (fun h => ?_)
          · refine r_sipush (pc := 94) (v := 1000) dX6_simulate_94 (by decide) ?_
            refine r_aload_n (pc := 97) dX6_simulate_97 rfl rfl ?_
            refine fX6_16 (pc := 98) hF dX6_simulate_98 (fun b35 => ?_)
            refine r_iconst (pc := 101) (v := 3) dX6_simulate_101 (by decide) ?_
            refine r_iald (pc := 102) dX6_simulate_102 b35 h (fun x36 h => ?_)
            refine r_aload_n (pc := 103) dX6_simulate_103 rfl rfl ?_
            refine fX6_13 (pc := 104) hF dX6_simulate_104 (fun b37 => ?_)
            refine r_iconst (pc := 107) (v := 3) dX6_simulate_107 (by decide) ?_
            refine r_iald (pc := 108) dX6_simulate_108 b37 h (fun x38 h => ?_)
            refine r_isub (pc := 109) dX6_simulate_109 ?_
            refine r_sipush (pc := 110) (v := 1000) dX6_simulate_110 (by decide) ?_
            refine r_iremc (pc := 113) dX6_simulate_113 (by decide) ?_
            refine r_imul (pc := 114) dX6_simulate_114 ?_
            refine r_aload_n (pc := 115) dX6_simulate_115 rfl rfl ?_
            refine fX6_16 (pc := 116) hF dX6_simulate_116 (fun b39 => ?_)
            obtain ⟨m40, x41, q42, h⟩ := gCl_some h
            refine r_callS (pc := 119) [.ref _] (tX6_credits _ _ _ hF _ _ _ _ q42 b39) ⟨rfl, rfl⟩ cd_X6_credits wX6_192 nm_X6_credits rfl (by rw [hRm]; decide) rfl (Nat.le_of_ble_eq_true rfl) dX6_simulate_119 ?_
            refine r_iadd (pc := 122) dX6_simulate_122 ?_
            exact r_iretH dX6_simulate_123 h he
          · refine r_lload (pc := 51) dX6_simulate_51 rfl ?_
            refine r_ldc2 (pc := 53) (v := 6364136223846793005) dX6_simulate_53 cX6_244 ?_
            refine r_lmul (pc := 56) dX6_simulate_56 ?_
            refine r_ldc2 (pc := 57) (v := 1442695040888963407) dX6_simulate_57 cX6_246 ?_
            refine r_ladd (pc := 60) dX6_simulate_60 ?_
            refine r_lstore (pc := 61) dX6_simulate_61 (by rw [hnL]; decide) rfl ?_
            refine r_lload (pc := 63) dX6_simulate_63 rfl ?_
            refine r_bipush (pc := 65) (v := 33) dX6_simulate_65 (by decide) ?_
            refine r_lushr (pc := 67) dX6_simulate_67 ?_
            refine r_l2i (pc := 68) dX6_simulate_68 ?_
            refine r_istoreL (pc := 69) dX6_simulate_69 (by rw [hnL]; decide) h (fun x43 h => ?_)
            refine r_aload_n (pc := 71) dX6_simulate_71 rfl rfl ?_
            refine fX6_16 (pc := 72) hF dX6_simulate_72 (fun b44 => ?_)
            refine r_iload (pc := 75) dX6_simulate_75 rfl ?_
            refine r_bipush (pc := 77) (v := 8) dX6_simulate_77 (by decide) ?_
            refine r_iremc (pc := 79) dX6_simulate_79 (by decide) ?_
            refine r_iload (pc := 80) dX6_simulate_80 rfl ?_
            refine r_bipush (pc := 82) (v := 8) dX6_simulate_82 (by decide) ?_
            refine r_idivc (pc := 84) dX6_simulate_84 (by decide) ?_
            obtain ⟨m45, q47, h⟩ := gCv_some h
            refine r_callS (pc := 85) [.ref _, .int _, .int _] (tX6_turnOf _ _ _ hF _ _ _ _ _ _ q47 b44) ⟨rfl, rfl⟩ cd_X6_turnOf wX6_248 nm_X6_turnOf rfl (by rw [hRm]; decide) rfl (Nat.le_of_ble_eq_true rfl) dX6_simulate_85 ?_
            refine r_iinc (pc := 88) (d := 1) dX6_simulate_88 rfl (by decide) (by rw [hnL]; decide) h (fun x48 h => ?_)
            refine r_goto (pc := 91) (tgt := 45) dX6_simulate_91 (by decide) ?_
            exact r_mask [true, false, false, true, true, false, true, false] rfl (ih30 _ _ _ h)
      exact r_mask [true, false, false, true, true, false, true, false] rfl (L31 _ _ _ _ h)
    · refine r_iconst (pc := 24) (v := 0) dX6_simulate_24 (by decide) ?_
      exact r_iretH dX6_simulate_25 h he
  · refine r_ifC_eq (pc := 10) (tgt := 17) dX6_simulate_10 (by decide) (fun g6 => ?_) (fun g6 => ?_)
    · refine r_iconst (pc := 17) (v := 1) dX6_simulate_17 (by decide) ?_
      exact r_mask [true, true, false, true, false, false, false, false] rfl (hJ5 _ (by rw [if_pos g6]))
    · refine r_iconst (pc := 13) (v := 0) dX6_simulate_13 (by decide) ?_
      refine r_goto (pc := 14) (tgt := 18) dX6_simulate_14 (by decide) ?_
      exact r_mask [true, true, false, true, false, false, false, false] rfl (hJ5 _ (by rw [if_neg g6]))
set_option maxHeartbeats 4000000 in
set_option maxRecDepth 100000 in
theorem tX6_save (l : Launch) (G : gX) (u : gU) (hF : gFull u) (p1 : Int32) (m : gM) (o : gM × Int32) (h : fX6_save p1 m = some o)  : gMet l G u yX6_save (.code yX6_save cX6_save 2 (some .int)) rmX6_save [.ref 5693, .int p1] m o.1 (some (.int o.2)) := by
  refine gMet_of (own := RX6) (k := 0) (by decide) rfl ⟨rfl, rfl⟩ (Nat.le_of_ble_eq_true rfl) [some (.ref 5693), some (.int p1)] rfl (fun Y hG hu hnL hLn hRm he => ?_)
  subst hG hu hLn
  unfold fX6_save at h
  refine r_aload_n (pc := 0) dX6_save_0 rfl rfl ?_
  refine r_iload_n (pc := 1) dX6_save_1 rfl rfl ?_
  refine r_i2l (pc := 2) dX6_save_2 ?_
  refine r_lconst (pc := 3) (v := 0) dX6_save_3 (by decide) ?_
  refine r_lconst (pc := 4) (v := 1) dX6_save_4 (by decide) ?_
  obtain ⟨m1, x2, q3, h⟩ := gCl_some h
  refine r_callS (pc := 5) [.long _, .long _, .long _] (tX6_in _ _ _ hF _ _ _ _ _ q3) ⟨rfl, rfl⟩ cd_X6_in wX6_37 nm_X6_in rfl (by rw [hRm]; decide) rfl (Nat.le_of_ble_eq_true rfl) dX6_save_5 ?_
  refine r_jn1 h (fun x4 => AW Y cX6_save RX6 16 [some (.ref 5693), some (.int p1)] [.int x4, .ref 5693] m1) (fun x4 h => ?_) (fun hJ5 => ?_)
  · obtain ⟨m7, x8, q9, h⟩ := gCl_some h
    refine r_callV (kd := 5) (pc := 16) [.int _] (tX6_refused _ _ _ hF _ _ _ q9) ⟨rfl, rfl⟩ cd_X6_refused wX6_108 nm_X6_refused rfl (by rw [hRm]; decide) rfl (Nat.le_of_ble_eq_true rfl) rfl (by decide) (gO5 hF) dX6_save_16 ?_
    refine r_if_eq (pc := 19) (tgt := 24) dX6_save_19 (by decide) h (fun h => ?_) (fun h => ?_)
    · refine r_aload_n (pc := 24) dX6_save_24 rfl rfl ?_
      refine fX6_13 (pc := 25) hF dX6_save_25 (fun b10 => ?_)
      refine r_iconst (pc := 28) (v := 0) dX6_save_28 (by decide) ?_
      refine r_aload_n (pc := 29) dX6_save_29 rfl rfl ?_
      refine fX6_22 (pc := 30) hF dX6_save_30 (fun b11 => ?_)
      refine r_sipush (pc := 33) (v := 258) dX6_save_33 (by decide) ?_
      refine r_iload_n (pc := 36) dX6_save_36 rfl rfl ?_
      refine r_imul (pc := 37) dX6_save_37 ?_
      obtain ⟨m12, q14, h⟩ := gCv_some h
      refine r_callS (pc := 38) [.ref _, .int _, .ref _, .int _] (tX6_copyState _ _ _ hF _ _ _ _ _ _ _ _ q14 b10 b11) ⟨rfl, rfl⟩ cd_X6_copyState wX6_183 nm_X6_copyState rfl (by rw [hRm]; decide) rfl (Nat.le_of_ble_eq_true rfl) dX6_save_38 ?_
      refine r_aload_n (pc := 41) dX6_save_41 rfl rfl ?_
      refine fX6_25 (pc := 42) hF dX6_save_42 (fun b15 => ?_)
      refine r_iload_n (pc := 45) dX6_save_45 rfl rfl ?_
      refine r_iconst (pc := 46) (v := 1) dX6_save_46 (by decide) ?_
      refine r_zast (pc := 47) dX6_save_47 b15 h (fun m16 h => ?_)
      refine r_aload_n (pc := 48) dX6_save_48 rfl rfl ?_
      refine fX6_13 (pc := 49) hF dX6_save_49 (fun b17 => ?_)
      refine r_iconst (pc := 52) (v := 1) dX6_save_52 (by decide) ?_
      refine r_iald (pc := 53) dX6_save_53 b17 h (fun x18 h => ?_)
      exact r_iretH dX6_save_54 h he
    · refine r_iconst (pc := 22) (v := 0) dX6_save_22 (by decide) ?_
      exact r_iretH dX6_save_23 h he
  · refine r_ifC_eq (pc := 8) (tgt := 15) dX6_save_8 (by decide) (fun g6 => ?_) (fun g6 => ?_)
    · refine r_iconst (pc := 15) (v := 1) dX6_save_15 (by decide) ?_
      exact r_mask [true, true] rfl (hJ5 _ (by rw [if_pos g6]))
    · refine r_iconst (pc := 11) (v := 0) dX6_save_11 (by decide) ?_
      refine r_goto (pc := 12) (tgt := 16) dX6_save_12 (by decide) ?_
      exact r_mask [true, true] rfl (hJ5 _ (by rw [if_neg g6]))
set_option maxHeartbeats 4000000 in
set_option maxRecDepth 100000 in
theorem tX6_restore (l : Launch) (G : gX) (u : gU) (hF : gFull u) (p1 : Int32) (m : gM) (o : gM × Int32) (h : fX6_restore p1 m = some o)  : gMet l G u yX6_restore (.code yX6_restore cX6_restore 2 (some .int)) rmX6_restore [.ref 5693, .int p1] m o.1 (some (.int o.2)) := by
  refine gMet_of (own := RX6) (k := 0) (by decide) rfl ⟨rfl, rfl⟩ (Nat.le_of_ble_eq_true rfl) [some (.ref 5693), some (.int p1)] rfl (fun Y hG hu hnL hLn hRm he => ?_)
  subst hG hu hLn
  unfold fX6_restore at h
  refine r_aload_n (pc := 0) dX6_restore_0 rfl rfl ?_
  refine r_iload_n (pc := 1) dX6_restore_1 rfl rfl ?_
  refine r_i2l (pc := 2) dX6_restore_2 ?_
  refine r_lconst (pc := 3) (v := 0) dX6_restore_3 (by decide) ?_
  refine r_lconst (pc := 4) (v := 1) dX6_restore_4 (by decide) ?_
  obtain ⟨m1, x2, q3, h⟩ := gCl_some h
  refine r_callS (pc := 5) [.long _, .long _, .long _] (tX6_in _ _ _ hF _ _ _ _ _ q3) ⟨rfl, rfl⟩ cd_X6_in wX6_37 nm_X6_in rfl (by rw [hRm]; decide) rfl (Nat.le_of_ble_eq_true rfl) dX6_restore_5 ?_
  refine r_jnK h (fun (k5 : Int32 → Option (gM × Int32)) => ∀ (x4 : Int32), k5 x4 = some o → AW Y cX6_restore RX6 29 [some (.ref 5693), some (.int p1)] [.int x4, .ref 5693] m1) (fun x4 h => ?_) (fun k5 hJ6 h => ?_)
  · obtain ⟨m7, x8, q9, h⟩ := gCl_some h
    refine r_callV (kd := 5) (pc := 29) [.int _] (tX6_refused _ _ _ hF _ _ _ q9) ⟨rfl, rfl⟩ cd_X6_refused wX6_108 nm_X6_refused rfl (by rw [hRm]; decide) rfl (Nat.le_of_ble_eq_true rfl) rfl (by decide) (gO5 hF) dX6_restore_29 ?_
    refine r_if_eq (pc := 32) (tgt := 37) dX6_restore_32 (by decide) h (fun h => ?_) (fun h => ?_)
    · refine r_aload_n (pc := 37) dX6_restore_37 rfl rfl ?_
      refine fX6_22 (pc := 38) hF dX6_restore_38 (fun b10 => ?_)
      refine r_sipush (pc := 41) (v := 258) dX6_restore_41 (by decide) ?_
      refine r_iload_n (pc := 44) dX6_restore_44 rfl rfl ?_
      refine r_imul (pc := 45) dX6_restore_45 ?_
      refine r_aload_n (pc := 46) dX6_restore_46 rfl rfl ?_
      refine fX6_13 (pc := 47) hF dX6_restore_47 (fun b11 => ?_)
      refine r_iconst (pc := 50) (v := 0) dX6_restore_50 (by decide) ?_
      obtain ⟨m12, q14, h⟩ := gCv_some h
      refine r_callS (pc := 51) [.ref _, .int _, .ref _, .int _] (tX6_copyState _ _ _ hF _ _ _ _ _ _ _ _ q14 b10 b11) ⟨rfl, rfl⟩ cd_X6_copyState wX6_183 nm_X6_copyState rfl (by rw [hRm]; decide) rfl (Nat.le_of_ble_eq_true rfl) dX6_restore_51 ?_
      refine r_aload_n (pc := 54) dX6_restore_54 rfl rfl ?_
      refine r_iconst (pc := 55) (v := 0) dX6_restore_55 (by decide) ?_
      refine fX6_187p (pc := 56) dX6_restore_56 (gO5 hF) h (fun m15 h => ?_)
      refine r_aload_n (pc := 59) dX6_restore_59 rfl rfl ?_
      refine fX6_13 (pc := 60) hF dX6_restore_60 (fun b16 => ?_)
      refine r_iconst (pc := 63) (v := 1) dX6_restore_63 (by decide) ?_
      refine r_iald (pc := 64) dX6_restore_64 b16 h (fun x17 h => ?_)
      exact r_iretH dX6_restore_65 h he
    · refine r_iconst (pc := 35) (v := 0) dX6_restore_35 (by decide) ?_
      exact r_iretH dX6_restore_36 h he
  · refine r_if_ne (pc := 8) (tgt := 15) dX6_restore_8 (by decide) h (fun h => ?_) (fun h => ?_)
    · refine r_aload_n (pc := 15) dX6_restore_15 rfl rfl ?_
      refine fX6_25 (pc := 16) hF dX6_restore_16 (fun b18 => ?_)
      refine r_iload_n (pc := 19) dX6_restore_19 rfl rfl ?_
      refine r_zald (pc := 20) dX6_restore_20 b18 h (fun x19 h => ?_)
      refine r_if_ne (pc := 21) (tgt := 28) dX6_restore_21 (by decide) h (fun h => ?_) (fun h => ?_)
      · refine r_iconst (pc := 28) (v := 0) dX6_restore_28 (by decide) ?_
        exact r_mask [true, true] rfl (hJ6 _ h)
      · refine r_iconst (pc := 24) (v := 2) dX6_restore_24 (by decide) ?_
        refine r_goto (pc := 25) (tgt := 29) dX6_restore_25 (by decide) ?_
        exact r_mask [true, true] rfl (hJ6 _ h)
    · refine r_iconst (pc := 11) (v := 1) dX6_restore_11 (by decide) ?_
      refine r_goto (pc := 12) (tgt := 29) dX6_restore_12 (by decide) ?_
      exact r_mask [true, true] rfl (hJ6 _ h)
