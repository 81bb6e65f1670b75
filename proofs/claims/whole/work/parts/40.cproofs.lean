/-! written by program: each method's bytecode does its function -/
set_option maxHeartbeats 4000000 in
set_option maxRecDepth 100000 in
theorem tJ0_coder_7d493 (l : Launch) (G : gX) (u : gU) (hF : gFull u) (i0 : Nat) (m : gM) (o : gM × Int32) (h : fJ0_coder_7d493 i0 m = some o) (h0 : i0 < 8) : gMet l G u yJ0_coder_7d493 (.code yJ0_coder_7d493 cJ0_coder_7d493 1 (some .byte)) rmJ0_coder_7d493 [.ref (20030 + i0)] m o.1 (some (.int o.2)) := by
  refine gMet_ofF (own := RJ0) (k := 0) (by decide +kernel) rfl ⟨rfl, rfl⟩ (Nat.le_of_ble_eq_true rfl) [some (.ref (20030 + i0))] rfl (fun Y hG hu hnL hLn hRm he => ?_)
  subst hG hu hLn
  unfold fJ0_coder_7d493 at h
  refine r_comp (pc := 0) kJ0_38 dJ0_coder_7d493_0 ?_
  refine r_if_eq (pc := 3) (tgt := 13) dJ0_coder_7d493_3 (by decide) h (fun h => ?_) (fun h => ?_)
  · refine r_iconst (pc := 13) (v := 1) dJ0_coder_7d493_13 (by decide) ?_
    exact r_zretH dJ0_coder_7d493_14 rfl h he
  · refine r_aload_n (pc := 6) dJ0_coder_7d493_6 rfl rfl ?_
    refine r_strC (pc := 7) h0 kJ0_15 dJ0_coder_7d493_7 ?_
    refine r_goto (pc := 10) (tgt := 14) dJ0_coder_7d493_10 (by decide) ?_
    exact r_zretH dJ0_coder_7d493_14 rfl h he
set_option maxHeartbeats 4000000 in
set_option maxRecDepth 100000 in
theorem tJ0_length_8abf5 (l : Launch) (G : gX) (u : gU) (hF : gFull u) (i0 : Nat) (m : gM) (o : gM × Int32) (h : fJ0_length_8abf5 i0 m = some o) (h0 : i0 < 8) : gMet l G u yJ0_length_8abf5 (.code yJ0_length_8abf5 cJ0_length_8abf5 1 (some .int)) rmJ0_length_8abf5 [.ref (20030 + i0)] m o.1 (some (.int o.2)) := by
  refine gMet_ofF (own := RJ0) (k := 0) (by decide +kernel) rfl ⟨rfl, rfl⟩ (Nat.le_of_ble_eq_true rfl) [some (.ref (20030 + i0))] rfl (fun Y hG hu hnL hLn hRm he => ?_)
  subst hG hu hLn
  unfold fJ0_length_8abf5 at h
  refine r_aload_n (pc := 0) dJ0_length_8abf5_0 rfl rfl ?_
  refine r_strV (pc := 1) h0 kJ0_9 dJ0_length_8abf5_1 ?_
  refine r_strL (pc := 4) h0 dJ0_length_8abf5_4 ?_
  refine r_aload_n (pc := 5) dJ0_length_8abf5_5 rfl rfl ?_
  obtain ⟨m1, x2, q3, h⟩ := gCl_some h
  refine r_callVS (pc := 6) [] (tJ0_coder_7d493 _ _ _ hF _ _ _ q3 h0) ⟨rfl, rfl⟩ cd_J0_coder_7d493 wJ0_335 nm_J0_coder_7d493 rfl (by rw [hRm]; decide) rfl (Nat.le_of_ble_eq_true rfl) h0 dJ0_length_8abf5_6 ?_
  refine r_ishr (pc := 9) dJ0_length_8abf5_9 ?_
  exact r_iretH dJ0_length_8abf5_10 h he
set_option maxHeartbeats 4000000 in
set_option maxRecDepth 100000 in
theorem tJ0_isEmpty_aae02 (l : Launch) (G : gX) (u : gU) (hF : gFull u) (i0 : Nat) (m : gM) (o : gM × Int32) (h : fJ0_isEmpty_aae02 i0 m = some o) (h0 : i0 < 8) : gMet l G u yJ0_isEmpty_aae02 (.code yJ0_isEmpty_aae02 cJ0_isEmpty_aae02 1 (some .boolean)) rmJ0_isEmpty_aae02 [.ref (20030 + i0)] m o.1 (some (.int o.2)) := by
  refine gMet_ofF (own := RJ0) (k := 0) (by decide +kernel) rfl ⟨rfl, rfl⟩ (Nat.le_of_ble_eq_true rfl) [some (.ref (20030 + i0))] rfl (fun Y hG hu hnL hLn hRm he => ?_)
  subst hG hu hLn
  unfold fJ0_isEmpty_aae02 at h
  refine r_aload_n (pc := 0) dJ0_isEmpty_aae02_0 rfl rfl ?_
  refine r_strV (pc := 1) h0 kJ0_9 dJ0_isEmpty_aae02_1 ?_
  refine r_strL (pc := 4) h0 dJ0_isEmpty_aae02_4 ?_
  refine r_if_ne (pc := 5) (tgt := 12) dJ0_isEmpty_aae02_5 (by decide) h (fun h => ?_) (fun h => ?_)
  · refine r_iconst (pc := 12) (v := 0) dJ0_isEmpty_aae02_12 (by decide) ?_
    exact r_zretH dJ0_isEmpty_aae02_13 rfl h he
  · refine r_iconst (pc := 8) (v := 1) dJ0_isEmpty_aae02_8 (by decide) ?_
    refine r_goto (pc := 9) (tgt := 13) dJ0_isEmpty_aae02_9 (by decide) ?_
    exact r_zretH dJ0_isEmpty_aae02_13 rfl h he
set_option maxHeartbeats 4000000 in
set_option maxRecDepth 100000 in
theorem tJ0_isLatin1_aae02 (l : Launch) (G : gX) (u : gU) (hF : gFull u) (i0 : Nat) (m : gM) (o : gM × Int32) (h : fJ0_isLatin1_aae02 i0 m = some o) (h0 : i0 < 8) : gMet l G u yJ0_isLatin1_aae02 (.code yJ0_isLatin1_aae02 cJ0_isLatin1_aae02 1 (some .boolean)) rmJ0_isLatin1_aae02 [.ref (20030 + i0)] m o.1 (some (.int o.2)) := by
  refine gMet_ofF (own := RJ0) (k := 0) (by decide +kernel) rfl ⟨rfl, rfl⟩ (Nat.le_of_ble_eq_true rfl) [some (.ref (20030 + i0))] rfl (fun Y hG hu hnL hLn hRm he => ?_)
  subst hG hu hLn
  unfold fJ0_isLatin1_aae02 at h
  refine r_comp (pc := 0) kJ0_38 dJ0_isLatin1_aae02_0 ?_
  refine r_if_eq (pc := 3) (tgt := 17) dJ0_isLatin1_aae02_3 (by decide) h (fun h => ?_) (fun h => ?_)
  · refine r_iconst (pc := 17) (v := 0) dJ0_isLatin1_aae02_17 (by decide) ?_
    exact r_zretH dJ0_isLatin1_aae02_18 rfl h he
  · refine r_aload_n (pc := 6) dJ0_isLatin1_aae02_6 rfl rfl ?_
    refine r_strC (pc := 7) h0 kJ0_15 dJ0_isLatin1_aae02_7 ?_
    refine r_if_ne (pc := 10) (tgt := 17) dJ0_isLatin1_aae02_10 (by decide) h (fun h => ?_) (fun h => ?_)
    · refine r_iconst (pc := 17) (v := 0) dJ0_isLatin1_aae02_17 (by decide) ?_
      exact r_zretH dJ0_isLatin1_aae02_18 rfl h he
    · refine r_iconst (pc := 13) (v := 1) dJ0_isLatin1_aae02_13 (by decide) ?_
      refine r_goto (pc := 14) (tgt := 18) dJ0_isLatin1_aae02_14 (by decide) ?_
      exact r_zretH dJ0_isLatin1_aae02_18 rfl h he
set_option maxHeartbeats 4000000 in
set_option maxRecDepth 100000 in
theorem tJ3_checkIndex_8e157 (l : Launch) (G : gX) (u : gU) (hF : gFull u) (p1 : Int32) (p2 : Int32) (m : gM) (o : gM × Int32) (h : fJ3_checkIndex_8e157 p1 p2 m = some o) (v3 : Value) (h3 : gRV v3) : gMet l G u yJ3_checkIndex_8e157 (.code yJ3_checkIndex_8e157 cJ3_checkIndex_8e157 3 (some .int)) rmJ3_checkIndex_8e157 [.int p1, .int p2, v3] m o.1 (some (.int o.2)) := by
  rcases h3 with rfl | rfl
  · refine gMet_ofF (own := RJ3) (k := 0) (by decide +kernel) rfl ⟨rfl, rfl⟩ (Nat.le_of_ble_eq_true rfl) [some (.int p1), some (.int p2), some .null] rfl (fun Y hG hu hnL hLn hRm he => ?_)
    subst hG hu hLn
    unfold fJ3_checkIndex_8e157 at h
    refine r_iload_n (pc := 0) dJ3_checkIndex_8e157_0 rfl rfl ?_
    refine r_if_lt (pc := 1) (tgt := 9) dJ3_checkIndex_8e157_1 (by decide) h (fun h => ?_) (fun h => ?_)
    · cases h
    · refine r_iload_n (pc := 4) dJ3_checkIndex_8e157_4 rfl rfl ?_
      refine r_iload_n (pc := 5) dJ3_checkIndex_8e157_5 rfl rfl ?_
      refine r_icmp_lt (pc := 6) (tgt := 16) dJ3_checkIndex_8e157_6 (by decide) h (fun h => ?_) (fun h => ?_)
      · refine r_iload_n (pc := 16) dJ3_checkIndex_8e157_16 rfl rfl ?_
        exact r_iretH dJ3_checkIndex_8e157_17 h he
      · cases h
  · refine gMet_ofF (own := RJ3) (k := 0) (by decide +kernel) rfl ⟨rfl, rfl⟩ (Nat.le_of_ble_eq_true rfl) [some (.int p1), some (.int p2), some (.ref 20050)] rfl (fun Y hG hu hnL hLn hRm he => ?_)
    subst hG hu hLn
    unfold fJ3_checkIndex_8e157 at h
    refine r_iload_n (pc := 0) dJ3_checkIndex_8e157_0 rfl rfl ?_
    refine r_if_lt (pc := 1) (tgt := 9) dJ3_checkIndex_8e157_1 (by decide) h (fun h => ?_) (fun h => ?_)
    · cases h
    · refine r_iload_n (pc := 4) dJ3_checkIndex_8e157_4 rfl rfl ?_
      refine r_iload_n (pc := 5) dJ3_checkIndex_8e157_5 rfl rfl ?_
      refine r_icmp_lt (pc := 6) (tgt := 16) dJ3_checkIndex_8e157_6 (by decide) h (fun h => ?_) (fun h => ?_)
      · refine r_iload_n (pc := 16) dJ3_checkIndex_8e157_16 rfl rfl ?_
        exact r_iretH dJ3_checkIndex_8e157_17 h he
      · cases h
set_option maxHeartbeats 4000000 in
set_option maxRecDepth 100000 in
theorem tJ0_checkIndex_df160 (l : Launch) (G : gX) (u : gU) (hF : gFull u) (p1 : Int32) (p2 : Int32) (m : gM) (o : gM) (h : fJ0_checkIndex_df160 p1 p2 m = some o)  : gMet l G u yJ0_checkIndex_df160 (.code yJ0_checkIndex_df160 cJ0_checkIndex_df160 2 none) rmJ0_checkIndex_df160 [.int p1, .int p2] m o none := by
  refine gMet_ofF (own := RJ0) (k := 0) (by decide +kernel) rfl ⟨rfl, rfl⟩ (Nat.le_of_ble_eq_true rfl) [some (.int p1), some (.int p2)] rfl (fun Y hG hu hnL hLn hRm he => ?_)
  subst hG hu hLn
  unfold fJ0_checkIndex_df160 at h
  refine r_iload_n (pc := 0) dJ0_checkIndex_df160_0 rfl rfl ?_
  refine r_iload_n (pc := 1) dJ0_checkIndex_df160_1 rfl rfl ?_
  refine r_sio (pc := 2) kJ0_1053 dJ0_checkIndex_df160_2 (fun v1 g2 => ?_)
  obtain ⟨m3, x4, q5, h⟩ := gCl_some h
  refine r_callS (pc := 5) [.int _, .int _, _] (tJ3_checkIndex_8e157 _ _ _ hF _ _ _ _ q5 _ g2) ⟨rfl, rfl⟩ cd_J3_checkIndex_8e157 wJ0_1059 nm_J3_checkIndex_8e157 rfl (by rw [hRm]; decide) rfl (Nat.le_of_ble_eq_true rfl) dJ0_checkIndex_df160_5 ?_
  refine r_pop (pc := 8) dJ0_checkIndex_df160_8 rfl ?_
  exact r_vretH dJ0_checkIndex_df160_9 h he
set_option maxHeartbeats 4000000 in
set_option maxRecDepth 100000 in
theorem tJ1_charAt_3b067 (l : Launch) (G : gX) (u : gU) (hF : gFull u) (i1 : Nat) (p2 : Int32) (m : gM) (o : gM × Int32) (h : fJ1_charAt_3b067 i1 p2 m = some o) (h1 : i1 < 8) : gMet l G u yJ1_charAt_3b067 (.code yJ1_charAt_3b067 cJ1_charAt_3b067 2 (some .char)) rmJ1_charAt_3b067 [.ref (20040 + i1), .int p2] m o.1 (some (.int o.2)) := by
  refine gMet_ofF (own := RJ1) (k := 0) (by decide +kernel) rfl ⟨rfl, rfl⟩ (Nat.le_of_ble_eq_true rfl) [some (.ref (20040 + i1)), some (.int p2)] rfl (fun Y hG hu hnL hLn hRm he => ?_)
  subst hG hu hLn
  unfold fJ1_charAt_3b067 at h
  refine r_iload_n (pc := 0) dJ1_charAt_3b067_0 rfl rfl ?_
  refine r_aload_n (pc := 1) dJ1_charAt_3b067_1 rfl rfl ?_
  refine r_strL (pc := 2) h1 dJ1_charAt_3b067_2 ?_
  obtain ⟨m1, q3, h⟩ := gCv_some h
  refine r_callS (pc := 3) [.int _, .int _] (tJ0_checkIndex_df160 _ _ _ hF _ _ _ _ q3) ⟨rfl, rfl⟩ cd_J0_checkIndex_df160 wJ1_9 nm_J0_checkIndex_df160 rfl (by rw [hRm]; decide) rfl (Nat.le_of_ble_eq_true rfl) dJ1_charAt_3b067_3 ?_
  refine r_aload_n (pc := 6) dJ1_charAt_3b067_6 rfl rfl ?_
  refine r_iload_n (pc := 7) dJ1_charAt_3b067_7 rfl rfl ?_
  refine r_strB (pc := 8) h1 dJ1_charAt_3b067_8 h (fun x4 h => ?_)
  refine r_sipush (pc := 9) (v := 255) dJ1_charAt_3b067_9 (by decide) ?_
  refine r_iand (pc := 12) dJ1_charAt_3b067_12 ?_
  refine r_i2c (pc := 13) dJ1_charAt_3b067_13 ?_
  exact r_zretH dJ1_charAt_3b067_14 rfl h he
set_option maxHeartbeats 4000000 in
set_option maxRecDepth 100000 in
theorem tJ0_charAt_5068e (l : Launch) (G : gX) (u : gU) (hF : gFull u) (i0 : Nat) (p1 : Int32) (m : gM) (o : gM × Int32) (h : fJ0_charAt_5068e i0 p1 m = some o) (h0 : i0 < 8) : gMet l G u yJ0_charAt_5068e (.code yJ0_charAt_5068e cJ0_charAt_5068e 2 (some .char)) rmJ0_charAt_5068e [.ref (20030 + i0), .int p1] m o.1 (some (.int o.2)) := by
  refine gMet_ofF (own := RJ0) (k := 0) (by decide +kernel) rfl ⟨rfl, rfl⟩ (Nat.le_of_ble_eq_true rfl) [some (.ref (20030 + i0)), some (.int p1)] rfl (fun Y hG hu hnL hLn hRm he => ?_)
  subst hG hu hLn
  unfold fJ0_charAt_5068e at h
  refine r_aload_n (pc := 0) dJ0_charAt_5068e_0 rfl rfl ?_
  obtain ⟨m1, x2, q3, h⟩ := gCl_some h
  refine r_callVS (pc := 1) [] (tJ0_isLatin1_aae02 _ _ _ hF _ _ _ q3 h0) ⟨rfl, rfl⟩ cd_J0_isLatin1_aae02 wJ0_492 nm_J0_isLatin1_aae02 rfl (by rw [hRm]; decide) rfl (Nat.le_of_ble_eq_true rfl) h0 dJ0_charAt_5068e_1 ?_
  refine r_if_eq (pc := 4) (tgt := 16) dJ0_charAt_5068e_4 (by decide) h (fun h => ?_) (fun h => ?_)
  · refine r_aload_n (pc := 16) dJ0_charAt_5068e_16 rfl rfl ?_
    refine r_strV (pc := 17) h0 kJ0_9 dJ0_charAt_5068e_17 ?_
    refine r_iload_n (pc := 20) dJ0_charAt_5068e_20 rfl rfl ?_
    cases h
  · refine r_aload_n (pc := 7) dJ0_charAt_5068e_7 rfl rfl ?_
    refine r_strV (pc := 8) h0 kJ0_9 dJ0_charAt_5068e_8 ?_
    refine r_iload_n (pc := 11) dJ0_charAt_5068e_11 rfl rfl ?_
    obtain ⟨m4, x5, q6, h⟩ := gCl_some h
    refine r_callS (pc := 12) [.ref _, .int _] (tJ1_charAt_3b067 _ _ _ hF _ _ _ _ q6 h0) ⟨rfl, rfl⟩ cd_J1_charAt_3b067 wJ0_495 nm_J1_charAt_3b067 rfl (by rw [hRm]; decide) rfl (Nat.le_of_ble_eq_true rfl) dJ0_charAt_5068e_12 ?_
    exact r_zretH dJ0_charAt_5068e_15 rfl h he
set_option maxHeartbeats 4000000 in
set_option maxRecDepth 100000 in
theorem tX0_makeNew (l : Launch) (G : gX) (u : gU) (hF : gFull u) (a0 : Nat) (m : gM) (o : gM) (h : fX0_makeNew a0 m = some o) (h0 : gIn u a0 0 0) : gMet l G u yX0_makeNew (.code yX0_makeNew cX0_makeNew 2 none) rmX0_makeNew [.ref a0] m o none := by
  refine gMet_of (own := RX0) (k := 1) (by decide) rfl ⟨rfl, rfl⟩ (Nat.le_of_ble_eq_true rfl) [some (.ref a0), none] rfl (fun Y hG hu hnL hLn hRm he => ?_)
  subst hG hu hLn
  unfold fX0_makeNew at h
  refine r_aload_n (pc := 0) dX0_makeNew_0 rfl rfl ?_
  refine r_iconst (pc := 1) (v := 0) dX0_makeNew_1 (by decide) ?_
  refine fX0_35p (pc := 2) dX0_makeNew_2 h0 h (fun m1 h => ?_)
  refine r_aload_n (pc := 5) dX0_makeNew_5 rfl rfl ?_
  refine r_iconst (pc := 6) (v := 0) dX0_makeNew_6 (by decide) ?_
  refine fX0_39p (pc := 7) dX0_makeNew_7 h0 h (fun m2 h => ?_)
  refine r_aload_n (pc := 10) dX0_makeNew_10 rfl rfl ?_
  refine r_iconst (pc := 11) (v := 0) dX0_makeNew_11 (by decide) ?_
  refine fX0_42p (pc := 12) dX0_makeNew_12 h0 h (fun m3 h => ?_)
  refine r_aload_n (pc := 15) dX0_makeNew_15 rfl rfl ?_
  refine r_iconst (pc := 16) (v := 0) dX0_makeNew_16 (by decide) ?_
  refine fX0_45p (pc := 17) dX0_makeNew_17 h0 h (fun m4 h => ?_)
  refine r_aload_n (pc := 20) dX0_makeNew_20 rfl rfl ?_
  refine r_iconst (pc := 21) (v := 0) dX0_makeNew_21 (by decide) ?_
  refine fX0_48p (pc := 22) dX0_makeNew_22 h0 h (fun m5 h => ?_)
  refine r_aload_n (pc := 25) dX0_makeNew_25 rfl rfl ?_
  refine r_iconst (pc := 26) (v := 0) dX0_makeNew_26 (by decide) ?_
  refine fX0_51p (pc := 27) dX0_makeNew_27 h0 h (fun m6 h => ?_)
  refine r_iconst (pc := 30) (v := 0) dX0_makeNew_30 (by decide) ?_
  refine r_istore_n (pc := 31) dX0_makeNew_31 rfl (by rw [hnL]; decide) rfl ?_
  have L27 : ∀ (n25 : Nat) (v28 : Int32) (m29 : gM), fX0_makeNew_L32 a0 n25 v28 m29 = some o → AW Y cX0_makeNew RX0 32 [some (.ref a0), some (.int v28)] [] m29 := by
    intro n25
    induction n25 with
    | zero =>
      intro v28 m29 h
      exact absurd h (by simp [fX0_makeNew_L32])
    | succ n25 ih26 =>
      intro v28 m29 h
      rw [fX0_makeNew_L32] at h
      refine r_iload_n (pc := 32) dX0_makeNew_32 rfl rfl ?_
      refine r_bipush (pc := 33) (v := 28) dX0_makeNew_33 (by decide) ?_
      refine r_icmp_ge (pc := 35) (tgt := 51) dX0_makeNew_35 (by decide) h (fun h => ?_) (fun h => ?_)
      · refine r_iconst (pc := 51) (v := 0) dX0_makeNew_51 (by decide) ?_
        refine r_istore_n (pc := 52) dX0_makeNew_52 rfl (by rw [hnL]; decide) rfl ?_
        have L32 : ∀ (n30 : Nat) (v33 : Int32) (m34 : gM), fX0_makeNew_L53 a0 (fX0_makeNew_L32 a0 n25) n30 v33 m34 = some o → AW Y cX0_makeNew RX0 53 [some (.ref a0), some (.int v33)] [] m34 := by
          intro n30
          induction n30 with
          | zero =>
            intro v33 m34 h
            exact absurd h (by simp [fX0_makeNew_L53])
          | succ n30 ih31 =>
            intro v33 m34 h
            rw [fX0_makeNew_L53] at h
            refine r_iload_n (pc := 53) dX0_makeNew_53 rfl rfl ?_
            refine r_iconst (pc := 54) (v := 4) dX0_makeNew_54 (by decide) ?_
            refine r_icmp_ge (pc := 55) (tgt := 71) dX0_makeNew_55 (by decide) h (fun h => ?_) (fun h => ?_)
            · refine sX0_54 (pc := 71) dX0_makeNew_71 ?_
              refine r_iconst (pc := 74) (v := 0) dX0_makeNew_74 (by decide) ?_
              refine r_aload_n (pc := 75) dX0_makeNew_75 rfl rfl ?_
              refine fX0_25 (pc := 76) hF dX0_makeNew_76 h0 (fun b35 => ?_)
              refine r_iconst (pc := 79) (v := 0) dX0_makeNew_79 (by decide) ?_
              refine r_iconst (pc := 80) (v := 5) dX0_makeNew_80 (by decide) ?_
              refine r_cpT (pc := 81) dX0_makeNew_81 mwX0_57 (by rw [hRm]; decide) (Nat.le_of_ble_eq_true rfl) b35 h (fun m36 h => ?_)
              exact r_vretH dX0_makeNew_84 h he
            · refine r_aload_n (pc := 58) dX0_makeNew_58 rfl rfl ?_
              refine fX0_21 (pc := 59) hF dX0_makeNew_59 h0 (fun b37 => ?_)
              refine r_iload_n (pc := 62) dX0_makeNew_62 rfl rfl ?_
              refine r_iload_n (pc := 63) dX0_makeNew_63 rfl rfl ?_
              refine r_iast (pc := 64) dX0_makeNew_64 b37 h (fun m38 h => ?_)
              refine r_iinc (pc := 65) (d := 1) dX0_makeNew_65 rfl (by decide) (by rw [hnL]; decide) h (fun x39 h => ?_)
              refine r_goto (pc := 68) (tgt := 53) dX0_makeNew_68 (by decide) ?_
              exact r_mask [true, true] rfl (ih31 _ _ h)
        exact r_mask [true, true] rfl (L32 _ _ _ h)
      · refine r_aload_n (pc := 38) dX0_makeNew_38 rfl rfl ?_
        refine fX0_17 (pc := 39) hF dX0_makeNew_39 h0 (fun b40 => ?_)
        refine r_iload_n (pc := 42) dX0_makeNew_42 rfl rfl ?_
        refine r_iconst (pc := 43) (v := 0) dX0_makeNew_43 (by decide) ?_
        refine r_zast (pc := 44) dX0_makeNew_44 b40 h (fun m41 h => ?_)
        refine r_iinc (pc := 45) (d := 1) dX0_makeNew_45 rfl (by decide) (by rw [hnL]; decide) h (fun x42 h => ?_)
        refine r_goto (pc := 48) (tgt := 32) dX0_makeNew_48 (by decide) ?_
        exact r_mask [true, true] rfl (ih26 _ _ h)
  exact r_mask [true, true] rfl (L27 _ _ _ h)
set_option maxHeartbeats 4000000 in
set_option maxRecDepth 100000 in
theorem tX1_copyFrom (l : Launch) (G : gX) (u : gU) (hF : gFull u) (a0 : Nat) (a1 : Nat) (m : gM) (o : gM) (h : fX1_copyFrom a0 a1 m = some o) (h0 : gIn u a0 1 0) (h1 : gIn u a1 1 0) : gMet l G u yX1_copyFrom (.code yX1_copyFrom cX1_copyFrom 2 none) rmX1_copyFrom [.ref a0, .ref a1] m o none := by
  refine gMet_of (own := RX1) (k := 0) (by decide) rfl ⟨rfl, rfl⟩ (Nat.le_of_ble_eq_true rfl) [some (.ref a0), some (.ref a1)] rfl (fun Y hG hu hnL hLn hRm he => ?_)
  subst hG hu hLn
  unfold fX1_copyFrom at h
  refine r_aload_n (pc := 0) dX1_copyFrom_0 rfl rfl ?_
  refine r_aload_n (pc := 1) dX1_copyFrom_1 rfl rfl ?_
  refine fX1_21 (pc := 2) dX1_copyFrom_2 h1 h (fun x1 h => ?_)
  refine fX1_21p (pc := 5) dX1_copyFrom_5 h0 h (fun m2 h => ?_)
  refine r_aload_n (pc := 8) dX1_copyFrom_8 rfl rfl ?_
  refine r_aload_n (pc := 9) dX1_copyFrom_9 rfl rfl ?_
  refine fX1_25 (pc := 10) dX1_copyFrom_10 h1 h (fun x3 h => ?_)
  refine fX1_25p (pc := 13) dX1_copyFrom_13 h0 h (fun m4 h => ?_)
  refine r_aload_n (pc := 16) dX1_copyFrom_16 rfl rfl ?_
  refine r_aload_n (pc := 17) dX1_copyFrom_17 rfl rfl ?_
  refine fX1_28 (pc := 18) dX1_copyFrom_18 h1 h (fun x5 h => ?_)
  refine fX1_28p (pc := 21) dX1_copyFrom_21 h0 h (fun m6 h => ?_)
  refine r_aload_n (pc := 24) dX1_copyFrom_24 rfl rfl ?_
  refine r_aload_n (pc := 25) dX1_copyFrom_25 rfl rfl ?_
  refine fX1_31 (pc := 26) dX1_copyFrom_26 h1 h (fun x7 h => ?_)
  refine fX1_31p (pc := 29) dX1_copyFrom_29 h0 h (fun m8 h => ?_)
  refine r_aload_n (pc := 32) dX1_copyFrom_32 rfl rfl ?_
  refine r_aload_n (pc := 33) dX1_copyFrom_33 rfl rfl ?_
  refine fX1_34 (pc := 34) dX1_copyFrom_34 h1 h (fun x9 h => ?_)
  refine fX1_34p (pc := 37) dX1_copyFrom_37 h0 h (fun m10 h => ?_)
  refine r_aload_n (pc := 40) dX1_copyFrom_40 rfl rfl ?_
  refine r_aload_n (pc := 41) dX1_copyFrom_41 rfl rfl ?_
  refine fX1_37 (pc := 42) dX1_copyFrom_42 h1 h (fun x11 h => ?_)
  refine fX1_37p (pc := 45) dX1_copyFrom_45 h0 h (fun m12 h => ?_)
  refine r_aload_n (pc := 48) dX1_copyFrom_48 rfl rfl ?_
  refine r_aload_n (pc := 49) dX1_copyFrom_49 rfl rfl ?_
  refine fX1_40 (pc := 50) dX1_copyFrom_50 h1 h (fun x13 h => ?_)
  refine fX1_40p (pc := 53) dX1_copyFrom_53 h0 h (fun m14 h => ?_)
  refine r_aload_n (pc := 56) dX1_copyFrom_56 rfl rfl ?_
  refine r_aload_n (pc := 57) dX1_copyFrom_57 rfl rfl ?_
  refine fX1_43 (pc := 58) dX1_copyFrom_58 h1 h (fun x15 h => ?_)
  refine fX1_43p (pc := 61) dX1_copyFrom_61 h0 h (fun m16 h => ?_)
  refine r_aload_n (pc := 64) dX1_copyFrom_64 rfl rfl ?_
  refine fX1_9 (pc := 65) hF dX1_copyFrom_65 h1 (fun b17 => ?_)
  refine r_iconst (pc := 68) (v := 0) dX1_copyFrom_68 (by decide) ?_
  refine r_aload_n (pc := 69) dX1_copyFrom_69 rfl rfl ?_
  refine fX1_9 (pc := 70) hF dX1_copyFrom_70 h0 (fun b18 => ?_)
  refine r_iconst (pc := 73) (v := 0) dX1_copyFrom_73 (by decide) ?_
  refine r_bipush (pc := 74) (v := 7) dX1_copyFrom_74 (by decide) ?_
  refine r_cpi (pc := 76) dX1_copyFrom_76 mwX1_46 (by rw [hRm]; decide) (Nat.le_of_ble_eq_true rfl) b17 b18 h (fun m19 h => ?_)
  refine r_aload_n (pc := 79) dX1_copyFrom_79 rfl rfl ?_
  refine fX1_15 (pc := 80) hF dX1_copyFrom_80 h1 (fun b20 => ?_)
  refine r_iconst (pc := 83) (v := 0) dX1_copyFrom_83 (by decide) ?_
  refine r_aload_n (pc := 84) dX1_copyFrom_84 rfl rfl ?_
  refine fX1_15 (pc := 85) hF dX1_copyFrom_85 h0 (fun b21 => ?_)
  refine r_iconst (pc := 88) (v := 0) dX1_copyFrom_88 (by decide) ?_
  refine r_iconst (pc := 89) (v := 3) dX1_copyFrom_89 (by decide) ?_
  refine r_cpi (pc := 90) dX1_copyFrom_90 mwX1_46 (by rw [hRm]; decide) (Nat.le_of_ble_eq_true rfl) b20 b21 h (fun m22 h => ?_)
  refine r_aload_n (pc := 93) dX1_copyFrom_93 rfl rfl ?_
  refine fX1_18 (pc := 94) hF dX1_copyFrom_94 h1 (fun b23 => ?_)
  refine r_iconst (pc := 97) (v := 0) dX1_copyFrom_97 (by decide) ?_
  refine r_aload_n (pc := 98) dX1_copyFrom_98 rfl rfl ?_
  refine fX1_18 (pc := 99) hF dX1_copyFrom_99 h0 (fun b24 => ?_)
  refine r_iconst (pc := 102) (v := 0) dX1_copyFrom_102 (by decide) ?_
  refine r_iconst (pc := 103) (v := 3) dX1_copyFrom_103 (by decide) ?_
  refine r_cpi (pc := 104) dX1_copyFrom_104 mwX1_46 (by rw [hRm]; decide) (Nat.le_of_ble_eq_true rfl) b23 b24 h (fun m25 h => ?_)
  exact r_vretH dX1_copyFrom_107 h he
set_option maxHeartbeats 4000000 in
set_option maxRecDepth 100000 in
theorem tX0_copyFrom (l : Launch) (G : gX) (u : gU) (hF : gFull u) (a0 : Nat) (a1 : Nat) (m : gM) (o : gM) (h : fX0_copyFrom a0 a1 m = some o) (h0 : gIn u a0 0 0) (h1 : gIn u a1 0 0) : gMet l G u yX0_copyFrom (.code yX0_copyFrom cX0_copyFrom 3 none) rmX0_copyFrom [.ref a0, .ref a1] m o none := by
  refine gMet_of (own := RX0) (k := 1) (by decide) rfl ⟨rfl, rfl⟩ (Nat.le_of_ble_eq_true rfl) [some (.ref a0), some (.ref a1), none] rfl (fun Y hG hu hnL hLn hRm he => ?_)
  subst hG hu hLn
  unfold fX0_copyFrom at h
  refine r_aload_n (pc := 0) dX0_copyFrom_0 rfl rfl ?_
  refine r_aload_n (pc := 1) dX0_copyFrom_1 rfl rfl ?_
  refine fX0_35 (pc := 2) dX0_copyFrom_2 h1 h (fun x1 h => ?_)
  refine fX0_35p (pc := 5) dX0_copyFrom_5 h0 h (fun m2 h => ?_)
  refine r_aload_n (pc := 8) dX0_copyFrom_8 rfl rfl ?_
  refine r_aload_n (pc := 9) dX0_copyFrom_9 rfl rfl ?_
  refine fX0_39 (pc := 10) dX0_copyFrom_10 h1 h (fun x3 h => ?_)
  refine fX0_39p (pc := 13) dX0_copyFrom_13 h0 h (fun m4 h => ?_)
  refine r_aload_n (pc := 16) dX0_copyFrom_16 rfl rfl ?_
  refine r_aload_n (pc := 17) dX0_copyFrom_17 rfl rfl ?_
  refine fX0_42 (pc := 18) dX0_copyFrom_18 h1 h (fun x5 h => ?_)
  refine fX0_42p (pc := 21) dX0_copyFrom_21 h0 h (fun m6 h => ?_)
  refine r_aload_n (pc := 24) dX0_copyFrom_24 rfl rfl ?_
  refine r_aload_n (pc := 25) dX0_copyFrom_25 rfl rfl ?_
  refine fX0_45 (pc := 26) dX0_copyFrom_26 h1 h (fun x7 h => ?_)
  refine fX0_45p (pc := 29) dX0_copyFrom_29 h0 h (fun m8 h => ?_)
  refine r_aload_n (pc := 32) dX0_copyFrom_32 rfl rfl ?_
  refine r_aload_n (pc := 33) dX0_copyFrom_33 rfl rfl ?_
  refine fX0_48 (pc := 34) dX0_copyFrom_34 h1 h (fun x9 h => ?_)
  refine fX0_48p (pc := 37) dX0_copyFrom_37 h0 h (fun m10 h => ?_)
  refine r_aload_n (pc := 40) dX0_copyFrom_40 rfl rfl ?_
  refine r_aload_n (pc := 41) dX0_copyFrom_41 rfl rfl ?_
  refine fX0_51 (pc := 42) dX0_copyFrom_42 h1 h (fun x11 h => ?_)
  refine fX0_51p (pc := 45) dX0_copyFrom_45 h0 h (fun m12 h => ?_)
  refine r_iconst (pc := 48) (v := 0) dX0_copyFrom_48 (by decide) ?_
  refine r_istore_n (pc := 49) dX0_copyFrom_49 rfl (by rw [hnL]; decide) rfl ?_
  have L53 : ∀ (n51 : Nat) (v54 : Int32) (m55 : gM), fX0_copyFrom_L50 a0 a1 n51 v54 m55 = some o → AW Y cX0_copyFrom RX0 50 [some (.ref a0), some (.ref a1), some (.int v54)] [] m55 := by
    intro n51
    induction n51 with
    | zero =>
      intro v54 m55 h
      exact absurd h (by simp [fX0_copyFrom_L50])
    | succ n51 ih52 =>
      intro v54 m55 h
      rw [fX0_copyFrom_L50] at h
      refine r_iload_n (pc := 50) dX0_copyFrom_50 rfl rfl ?_
      refine r_aload_n (pc := 51) dX0_copyFrom_51 rfl rfl ?_
      refine fX0_35 (pc := 52) dX0_copyFrom_52 h0 h (fun x56 h => ?_)
      refine r_icmp_ge (pc := 55) (tgt := 79) dX0_copyFrom_55 (by decide) h (fun h => ?_) (fun h => ?_)
      · refine r_iconst (pc := 79) (v := 0) dX0_copyFrom_79 (by decide) ?_
        refine r_istore_n (pc := 80) dX0_copyFrom_80 rfl (by rw [hnL]; decide) rfl ?_
        have L59 : ∀ (n57 : Nat) (v60 : Int32) (m61 : gM), fX0_copyFrom_L81 a0 a1 (fX0_copyFrom_L50 a0 a1 n51) n57 v60 m61 = some o → AW Y cX0_copyFrom RX0 81 [some (.ref a0), some (.ref a1), some (.int v60)] [] m61 := by
          intro n57
          induction n57 with
          | zero =>
            intro v60 m61 h
            exact absurd h (by simp [fX0_copyFrom_L81])
          | succ n57 ih58 =>
            intro v60 m61 h
            rw [fX0_copyFrom_L81] at h
            refine r_iload_n (pc := 81) dX0_copyFrom_81 rfl rfl ?_
            refine r_bipush (pc := 82) (v := 28) dX0_copyFrom_82 (by decide) ?_
            refine r_icmp_ge (pc := 84) (tgt := 105) dX0_copyFrom_84 (by decide) h (fun h => ?_) (fun h => ?_)
            · refine r_aload_n (pc := 105) dX0_copyFrom_105 rfl rfl ?_
              refine fX0_21 (pc := 106) hF dX0_copyFrom_106 h1 (fun b62 => ?_)
              refine r_iconst (pc := 109) (v := 0) dX0_copyFrom_109 (by decide) ?_
              refine r_aload_n (pc := 110) dX0_copyFrom_110 rfl rfl ?_
              refine fX0_21 (pc := 111) hF dX0_copyFrom_111 h0 (fun b63 => ?_)
              refine r_iconst (pc := 114) (v := 0) dX0_copyFrom_114 (by decide) ?_
              refine r_iconst (pc := 115) (v := 4) dX0_copyFrom_115 (by decide) ?_
              refine r_cpi (pc := 116) dX0_copyFrom_116 mwX0_57 (by rw [hRm]; decide) (Nat.le_of_ble_eq_true rfl) b62 b63 h (fun m64 h => ?_)
              refine r_aload_n (pc := 119) dX0_copyFrom_119 rfl rfl ?_
              refine fX0_25 (pc := 120) hF dX0_copyFrom_120 h1 (fun b65 => ?_)
              refine r_iconst (pc := 123) (v := 0) dX0_copyFrom_123 (by decide) ?_
              refine r_aload_n (pc := 124) dX0_copyFrom_124 rfl rfl ?_
              refine fX0_25 (pc := 125) hF dX0_copyFrom_125 h0 (fun b66 => ?_)
              refine r_iconst (pc := 128) (v := 0) dX0_copyFrom_128 (by decide) ?_
              refine r_iconst (pc := 129) (v := 5) dX0_copyFrom_129 (by decide) ?_
              refine r_cpi (pc := 130) dX0_copyFrom_130 mwX0_57 (by rw [hRm]; decide) (Nat.le_of_ble_eq_true rfl) b65 b66 h (fun m67 h => ?_)
              exact r_vretH dX0_copyFrom_133 h he
            · refine r_aload_n (pc := 87) dX0_copyFrom_87 rfl rfl ?_
              refine fX0_17 (pc := 88) hF dX0_copyFrom_88 h0 (fun b68 => ?_)
              refine r_iload_n (pc := 91) dX0_copyFrom_91 rfl rfl ?_
              refine r_aload_n (pc := 92) dX0_copyFrom_92 rfl rfl ?_
              refine fX0_17 (pc := 93) hF dX0_copyFrom_93 h1 (fun b69 => ?_)
              refine r_iload_n (pc := 96) dX0_copyFrom_96 rfl rfl ?_
              refine r_zald (pc := 97) dX0_copyFrom_97 b69 h (fun x70 h => ?_)
              refine r_zast (pc := 98) dX0_copyFrom_98 b68 h (fun m71 h => ?_)
              refine r_iinc (pc := 99) (d := 1) dX0_copyFrom_99 rfl (by decide) (by rw [hnL]; decide) h (fun x72 h => ?_)
              refine r_goto (pc := 102) (tgt := 81) dX0_copyFrom_102 (by decide) ?_
              exact r_mask [true, true, true] rfl (ih58 _ _ h)
        exact r_mask [true, true, true] rfl (L59 _ _ _ h)
      · refine r_aload_n (pc := 58) dX0_copyFrom_58 rfl rfl ?_
        refine fX0_11 (pc := 59) hF dX0_copyFrom_59 h0 (fun b73 => ?_)
        refine r_iload_n (pc := 62) dX0_copyFrom_62 rfl rfl ?_
        refine r_cust (pc := 63) hF dX0_copyFrom_63 b73 h (fun c74 b75 h => ?_)
        refine r_aload_n (pc := 64) dX0_copyFrom_64 rfl rfl ?_
        refine fX0_11 (pc := 65) hF dX0_copyFrom_65 h1 (fun b76 => ?_)
        refine r_iload_n (pc := 68) dX0_copyFrom_68 rfl rfl ?_
        refine r_cust (pc := 69) hF dX0_copyFrom_69 b76 h (fun c77 b78 h => ?_)
        obtain ⟨m79, q81, h⟩ := gCv_some h
        refine r_callVN (kd := 1) (pc := 70) [.ref _] (tX1_copyFrom _ _ _ hF _ _ _ _ q81 b75 b78) ⟨rfl, rfl⟩ cd_X1_copyFrom wX0_63 nm_X1_copyFrom rfl (by rw [hRm]; decide) rfl (Nat.le_of_ble_eq_true rfl) rfl (by decide) b75 dX0_copyFrom_70 ?_
        refine r_iinc (pc := 73) (d := 1) dX0_copyFrom_73 rfl (by decide) (by rw [hnL]; decide) h (fun x82 h => ?_)
        refine r_goto (pc := 76) (tgt := 50) dX0_copyFrom_76 (by decide) ?_
        exact r_mask [true, true, true] rfl (ih52 _ _ h)
  exact r_mask [true, true, true] rfl (L53 _ _ _ h)
set_option maxHeartbeats 4000000 in
set_option maxRecDepth 100000 in
theorem tX1_loavesAWeek (l : Launch) (G : gX) (u : gU) (hF : gFull u) (a0 : Nat) (m : gM) (o : gM × Int32) (h : fX1_loavesAWeek a0 m = some o) (h0 : gIn u a0 1 0) : gMet l G u yX1_loavesAWeek (.code yX1_loavesAWeek cX1_loavesAWeek 3 (some .int)) rmX1_loavesAWeek [.ref a0] m o.1 (some (.int o.2)) := by
  refine gMet_of (own := RX1) (k := 2) (by decide) rfl ⟨rfl, rfl⟩ (Nat.le_of_ble_eq_true rfl) [some (.ref a0), none, none] rfl (fun Y hG hu hnL hLn hRm he => ?_)
  subst hG hu hLn
  unfold fX1_loavesAWeek at h
  refine r_iconst (pc := 0) (v := 0) dX1_loavesAWeek_0 (by decide) ?_
  refine r_istore_n (pc := 1) dX1_loavesAWeek_1 rfl (by rw [hnL]; decide) rfl ?_
  refine r_iconst (pc := 2) (v := 0) dX1_loavesAWeek_2 (by decide) ?_
  refine r_istore_n (pc := 3) dX1_loavesAWeek_3 rfl (by rw [hnL]; decide) rfl ?_
  have L7 : ∀ (n5 : Nat) (v8 : Int32) (v9 : Int32) (m10 : gM), fX1_loavesAWeek_L4 a0 n5 v8 v9 m10 = some o → AW Y cX1_loavesAWeek RX1 4 [some (.ref a0), some (.int v8), some (.int v9)] [] m10 := by
    intro n5
    induction n5 with
    | zero =>
      intro v8 v9 m10 h
      exact absurd h (by simp [fX1_loavesAWeek_L4])
    | succ n5 ih6 =>
      intro v8 v9 m10 h
      rw [fX1_loavesAWeek_L4] at h
      refine r_iload_n (pc := 4) dX1_loavesAWeek_4 rfl rfl ?_
      refine r_bipush (pc := 5) (v := 7) dX1_loavesAWeek_5 (by decide) ?_
      refine r_icmp_ge (pc := 7) (tgt := 25) dX1_loavesAWeek_7 (by decide) h (fun h => ?_) (fun h => ?_)
      · refine r_iload_n (pc := 25) dX1_loavesAWeek_25 rfl rfl ?_
        exact r_iretH dX1_loavesAWeek_26 h he
      · refine r_iload_n (pc := 10) dX1_loavesAWeek_10 rfl rfl ?_
        refine r_aload_n (pc := 11) dX1_loavesAWeek_11 rfl rfl ?_
        refine fX1_9 (pc := 12) hF dX1_loavesAWeek_12 h0 (fun b11 => ?_)
        refine r_iload_n (pc := 15) dX1_loavesAWeek_15 rfl rfl ?_
        refine r_iald (pc := 16) dX1_loavesAWeek_16 b11 h (fun x12 h => ?_)
        refine r_iadd (pc := 17) dX1_loavesAWeek_17 ?_
        refine r_istore_nL (pc := 18) dX1_loavesAWeek_18 rfl (by rw [hnL]; decide) h (fun x13 h => ?_)
        refine r_iinc (pc := 19) (d := 1) dX1_loavesAWeek_19 rfl (by decide) (by rw [hnL]; decide) h (fun x14 h => ?_)
        refine r_goto (pc := 22) (tgt := 4) dX1_loavesAWeek_22 (by decide) ?_
        exact r_mask [true, true, true] rfl (ih6 _ _ _ h)
  exact r_mask [true, true, true] rfl (L7 _ _ _ _ h)
set_option maxHeartbeats 4000000 in
set_option maxRecDepth 100000 in
theorem tX1_numberOf (l : Launch) (G : gX) (u : gU) (hF : gFull u) (a0 : Nat) (p1 : Int32) (m : gM) (o : gM × Int32) (h : fX1_numberOf a0 p1 m = some o) (h0 : gIn u a0 1 0) : gMet l G u yX1_numberOf (.code yX1_numberOf cX1_numberOf 2 (some .int)) rmX1_numberOf [.ref a0, .int p1] m o.1 (some (.int o.2)) := by
  refine gMet_of (own := RX1) (k := 0) (by decide) rfl ⟨rfl, rfl⟩ (Nat.le_of_ble_eq_true rfl) [some (.ref a0), some (.int p1)] rfl (fun Y hG hu hnL hLn hRm he => ?_)
  subst hG hu hLn
  unfold fX1_numberOf at h
  refine r_iload_n (pc := 0) dX1_numberOf_0 rfl rfl ?_
  refine r_sw h (fun g1 h => ?_) (fun g1 h => ?_)
  · refine r_tabIn (pc := 1) (tgt := 48) (v := 0) dX1_numberOf_1 g1 (by decide) (by decide) rfl (by decide) ?_
    refine r_aload_n (pc := 48) dX1_numberOf_48 rfl rfl ?_
    refine fX1_21 (pc := 49) dX1_numberOf_49 h0 h (fun x2 h => ?_)
    exact r_iretH dX1_numberOf_52 h he
  refine r_sw h (fun g3 h => ?_) (fun g3 h => ?_)
  · refine r_tabIn (pc := 1) (tgt := 53) (v := 1) dX1_numberOf_1 g3 (by decide) (by decide) rfl (by decide) ?_
    refine r_aload_n (pc := 53) dX1_numberOf_53 rfl rfl ?_
    obtain ⟨m4, x5, q6, h⟩ := gCl_some h
    refine r_callV (kd := 1) (pc := 54) [] (tX1_loavesAWeek _ _ _ hF _ _ _ q6 h0) ⟨rfl, rfl⟩ cd_X1_loavesAWeek wX1_52 nm_X1_loavesAWeek rfl (by rw [hRm]; decide) rfl (Nat.le_of_ble_eq_true rfl) rfl (by decide) h0 dX1_numberOf_54 ?_
    exact r_iretH dX1_numberOf_57 h he
  refine r_sw h (fun g7 h => ?_) (fun g7 h => ?_)
  · refine r_tabIn (pc := 1) (tgt := 58) (v := 2) dX1_numberOf_1 g7 (by decide) (by decide) rfl (by decide) ?_
    refine r_aload_n (pc := 58) dX1_numberOf_58 rfl rfl ?_
    refine fX1_25 (pc := 59) dX1_numberOf_59 h0 h (fun x8 h => ?_)
    exact r_iretH dX1_numberOf_62 h he
  refine r_sw h (fun g9 h => ?_) (fun g9 h => ?_)
  · refine r_tabIn (pc := 1) (tgt := 63) (v := 3) dX1_numberOf_1 g9 (by decide) (by decide) rfl (by decide) ?_
    refine r_aload_n (pc := 63) dX1_numberOf_63 rfl rfl ?_
    refine fX1_28 (pc := 64) dX1_numberOf_64 h0 h (fun x10 h => ?_)
    exact r_iretH dX1_numberOf_67 h he
  refine r_sw h (fun g11 h => ?_) (fun g11 h => ?_)
  · refine r_tabIn (pc := 1) (tgt := 68) (v := 4) dX1_numberOf_1 g11 (by decide) (by decide) rfl (by decide) ?_
    refine r_aload_n (pc := 68) dX1_numberOf_68 rfl rfl ?_
    refine fX1_31 (pc := 69) dX1_numberOf_69 h0 h (fun x12 h => ?_)
    exact r_iretH dX1_numberOf_72 h he
  refine r_sw h (fun g13 h => ?_) (fun g13 h => ?_)
  · refine r_tabIn (pc := 1) (tgt := 73) (v := 5) dX1_numberOf_1 g13 (by decide) (by decide) rfl (by decide) ?_
    refine r_aload_n (pc := 73) dX1_numberOf_73 rfl rfl ?_
    refine fX1_34 (pc := 74) dX1_numberOf_74 h0 h (fun x14 h => ?_)
    exact r_iretH dX1_numberOf_77 h he
  refine r_sw h (fun g15 h => ?_) (fun g15 h => ?_)
  · refine r_tabIn (pc := 1) (tgt := 78) (v := 6) dX1_numberOf_1 g15 (by decide) (by decide) rfl (by decide) ?_
    refine r_aload_n (pc := 78) dX1_numberOf_78 rfl rfl ?_
    refine fX1_37 (pc := 79) dX1_numberOf_79 h0 h (fun x16 h => ?_)
    exact r_iretH dX1_numberOf_82 h he
  refine r_sw h (fun g17 h => ?_) (fun g17 h => ?_)
  · refine r_tabIn (pc := 1) (tgt := 83) (v := 7) dX1_numberOf_1 g17 (by decide) (by decide) rfl (by decide) ?_
    refine r_aload_n (pc := 83) dX1_numberOf_83 rfl rfl ?_
    refine fX1_40 (pc := 84) dX1_numberOf_84 h0 h (fun x18 h => ?_)
    exact r_iretH dX1_numberOf_87 h he
  have g1n := gNe g1 (z := 0) (by decide)
  have g3n := gNe g3 (z := 1) (by decide)
  have g7n := gNe g7 (z := 2) (by decide)
  have g9n := gNe g9 (z := 3) (by decide)
  have g11n := gNe g11 (z := 4) (by decide)
  have g13n := gNe g13 (z := 5) (by decide)
  have g15n := gNe g15 (z := 6) (by decide)
  have g17n := gNe g17 (z := 7) (by decide)
  refine r_tabOut (pc := 1) (tgt := 88) dX1_numberOf_1 (by omega) (by decide) ?_
  refine r_aload_n (pc := 88) dX1_numberOf_88 rfl rfl ?_
  refine fX1_43 (pc := 89) dX1_numberOf_89 h0 h (fun x19 h => ?_)
  exact r_iretH dX1_numberOf_92 h he
set_option maxHeartbeats 4000000 in
set_option maxRecDepth 100000 in
theorem tX0_sumOf (l : Launch) (G : gX) (u : gU) (hF : gFull u) (a0 : Nat) (p1 : Int32) (m : gM) (o : gM × Int32) (h : fX0_sumOf a0 p1 m = some o) (h0 : gIn u a0 0 0) : gMet l G u yX0_sumOf (.code yX0_sumOf cX0_sumOf 4 (some .int)) rmX0_sumOf [.ref a0, .int p1] m o.1 (some (.int o.2)) := by
  refine gMet_of (own := RX0) (k := 2) (by decide) rfl ⟨rfl, rfl⟩ (Nat.le_of_ble_eq_true rfl) [some (.ref a0), some (.int p1), none, none] rfl (fun Y hG hu hnL hLn hRm he => ?_)
  subst hG hu hLn
  unfold fX0_sumOf at h
  refine r_iconst (pc := 0) (v := 0) dX0_sumOf_0 (by decide) ?_
  refine r_istore_n (pc := 1) dX0_sumOf_1 rfl (by rw [hnL]; decide) rfl ?_
  refine r_iconst (pc := 2) (v := 0) dX0_sumOf_2 (by decide) ?_
  refine r_istore_n (pc := 3) dX0_sumOf_3 rfl (by rw [hnL]; decide) rfl ?_
  have L12 : ∀ (n10 : Nat) (v13 : Int32) (v14 : Int32) (m15 : gM), fX0_sumOf_L4 a0 p1 n10 v13 v14 m15 = some o → AW Y cX0_sumOf RX0 4 [some (.ref a0), some (.int p1), some (.int v13), some (.int v14)] [] m15 := by
    intro n10
    induction n10 with
    | zero =>
      intro v13 v14 m15 h
      exact absurd h (by simp [fX0_sumOf_L4])
    | succ n10 ih11 =>
      intro v13 v14 m15 h
      rw [fX0_sumOf_L4] at h
      refine r_iload_n (pc := 4) dX0_sumOf_4 rfl rfl ?_
      refine r_aload_n (pc := 5) dX0_sumOf_5 rfl rfl ?_
      refine fX0_35 (pc := 6) dX0_sumOf_6 h0 h (fun x16 h => ?_)
      refine r_icmp_ge (pc := 9) (tgt := 31) dX0_sumOf_9 (by decide) h (fun h => ?_) (fun h => ?_)
      · refine r_iload_n (pc := 31) dX0_sumOf_31 rfl rfl ?_
        exact r_iretH dX0_sumOf_32 h he
      · refine r_iload_n (pc := 12) dX0_sumOf_12 rfl rfl ?_
        refine r_aload_n (pc := 13) dX0_sumOf_13 rfl rfl ?_
        refine fX0_11 (pc := 14) hF dX0_sumOf_14 h0 (fun b17 => ?_)
        refine r_iload_n (pc := 17) dX0_sumOf_17 rfl rfl ?_
        refine r_cust (pc := 18) hF dX0_sumOf_18 b17 h (fun c18 b19 h => ?_)
        refine r_iload_n (pc := 19) dX0_sumOf_19 rfl rfl ?_
        obtain ⟨m20, x21, q22, h⟩ := gCl_some h
        refine r_callVN (kd := 1) (pc := 20) [.int _] (tX1_numberOf _ _ _ hF _ _ _ _ q22 b19) ⟨rfl, rfl⟩ cd_X1_numberOf wX0_75 nm_X1_numberOf rfl (by rw [hRm]; decide) rfl (Nat.le_of_ble_eq_true rfl) rfl (by decide) b19 dX0_sumOf_20 ?_
        refine r_iadd (pc := 23) dX0_sumOf_23 ?_
        refine r_istore_nL (pc := 24) dX0_sumOf_24 rfl (by rw [hnL]; decide) h (fun x23 h => ?_)
        refine r_iinc (pc := 25) (d := 1) dX0_sumOf_25 rfl (by decide) (by rw [hnL]; decide) h (fun x24 h => ?_)
        refine r_goto (pc := 28) (tgt := 4) dX0_sumOf_28 (by decide) ?_
        exact r_mask [true, true, true, true] rfl (ih11 _ _ _ h)
  exact r_mask [true, true, true, true] rfl (L12 _ _ _ _ h)
set_option maxHeartbeats 4000000 in
set_option maxRecDepth 100000 in
theorem tX1_isInFirstHolidays (l : Launch) (G : gX) (u : gU) (hF : gFull u) (a0 : Nat) (p1 : Int32) (p2 : Int32) (m : gM) (o : gM × Int32) (h : fX1_isInFirstHolidays a0 p1 p2 m = some o) (h0 : gIn u a0 1 0) : gMet l G u yX1_isInFirstHolidays (.code yX1_isInFirstHolidays cX1_isInFirstHolidays 4 (some .boolean)) rmX1_isInFirstHolidays [.ref a0, .int p1, .int p2] m o.1 (some (.int o.2)) := by
  refine gMet_of (own := RX1) (k := 1) (by decide) rfl ⟨rfl, rfl⟩ (Nat.le_of_ble_eq_true rfl) [some (.ref a0), some (.int p1), some (.int p2), none] rfl (fun Y hG hu hnL hLn hRm he => ?_)
  subst hG hu hLn
  unfold fX1_isInFirstHolidays at h
  refine r_iconst (pc := 0) (v := 0) dX1_isInFirstHolidays_0 (by decide) ?_
  refine r_istore_n (pc := 1) dX1_isInFirstHolidays_1 rfl (by rw [hnL]; decide) rfl ?_
  have L9 : ∀ (n7 : Nat) (v10 : Int32) (m11 : gM), fX1_isInFirstHolidays_L2 a0 p1 p2 n7 v10 m11 = some o → AW Y cX1_isInFirstHolidays RX1 2 [some (.ref a0), some (.int p1), some (.int p2), some (.int v10)] [] m11 := by
    intro n7
    induction n7 with
    | zero =>
      intro v10 m11 h
      exact absurd h (by simp [fX1_isInFirstHolidays_L2])
    | succ n7 ih8 =>
      intro v10 m11 h
      rw [fX1_isInFirstHolidays_L2] at h
      refine r_iload_n (pc := 2) dX1_isInFirstHolidays_2 rfl rfl ?_
      refine r_iload_n (pc := 3) dX1_isInFirstHolidays_3 rfl rfl ?_
      refine r_icmp_ge (pc := 4) (tgt := 35) dX1_isInFirstHolidays_4 (by decide) h (fun h => ?_) (fun h => ?_)
      · refine r_iconst (pc := 35) (v := 0) dX1_isInFirstHolidays_35 (by decide) ?_
        exact r_zretH dX1_isInFirstHolidays_36 rfl h he
      · refine r_iload_n (pc := 7) dX1_isInFirstHolidays_7 rfl rfl ?_
        refine r_aload_n (pc := 8) dX1_isInFirstHolidays_8 rfl rfl ?_
        refine fX1_15 (pc := 9) hF dX1_isInFirstHolidays_9 h0 (fun b12 => ?_)
        refine r_iload_n (pc := 12) dX1_isInFirstHolidays_12 rfl rfl ?_
        refine r_iald (pc := 13) dX1_isInFirstHolidays_13 b12 h (fun x13 h => ?_)
        refine r_icmp_lt (pc := 14) (tgt := 29) dX1_isInFirstHolidays_14 (by decide) h (fun h => ?_) (fun h => ?_)
        · refine r_iinc (pc := 29) (d := 1) dX1_isInFirstHolidays_29 rfl (by decide) (by rw [hnL]; decide) h (fun x14 h => ?_)
          refine r_goto (pc := 32) (tgt := 2) dX1_isInFirstHolidays_32 (by decide) ?_
          exact r_mask [true, true, true, true] rfl (ih8 _ _ h)
        · refine r_iload_n (pc := 17) dX1_isInFirstHolidays_17 rfl rfl ?_
          refine r_aload_n (pc := 18) dX1_isInFirstHolidays_18 rfl rfl ?_
          refine fX1_18 (pc := 19) hF dX1_isInFirstHolidays_19 h0 (fun b15 => ?_)
          refine r_iload_n (pc := 22) dX1_isInFirstHolidays_22 rfl rfl ?_
          refine r_iald (pc := 23) dX1_isInFirstHolidays_23 b15 h (fun x16 h => ?_)
          refine r_icmp_gt (pc := 24) (tgt := 29) dX1_isInFirstHolidays_24 (by decide) h (fun h => ?_) (fun h => ?_)
          · refine r_iinc (pc := 29) (d := 1) dX1_isInFirstHolidays_29 rfl (by decide) (by rw [hnL]; decide) h (fun x17 h => ?_)
            refine r_goto (pc := 32) (tgt := 2) dX1_isInFirstHolidays_32 (by decide) ?_
            exact r_mask [true, true, true, true] rfl (ih8 _ _ h)
          · refine r_iconst (pc := 27) (v := 1) dX1_isInFirstHolidays_27 (by decide) ?_
            exact r_zretH dX1_isInFirstHolidays_28 rfl h he
  exact r_mask [true, true, true, true] rfl (L9 _ _ _ h)
set_option maxHeartbeats 4000000 in
set_option maxRecDepth 100000 in
theorem tX5_weekdayOf (l : Launch) (G : gX) (u : gU) (hF : gFull u) (p1 : Int32) (m : gM) (o : gM × Int32) (h : fX5_weekdayOf p1 m = some o)  : gMet l G u yX5_weekdayOf (.code yX5_weekdayOf cX5_weekdayOf 1 (some .int)) rmX5_weekdayOf [.int p1] m o.1 (some (.int o.2)) := by
  refine gMet_of (own := RX5) (k := 0) (by decide) rfl ⟨rfl, rfl⟩ (Nat.le_of_ble_eq_true rfl) [some (.int p1)] rfl (fun Y hG hu hnL hLn hRm he => ?_)
  subst hG hu hLn
  unfold fX5_weekdayOf at h
  refine r_iload_n (pc := 0) dX5_weekdayOf_0 rfl rfl ?_
  refine r_bipush (pc := 1) (v := 7) dX5_weekdayOf_1 (by decide) ?_
  refine r_iremc (pc := 3) dX5_weekdayOf_3 (by decide) ?_
  exact r_iretH dX5_weekdayOf_4 h he
set_option maxHeartbeats 4000000 in
set_option maxRecDepth 100000 in
theorem tX1_dueOn (l : Launch) (G : gX) (u : gU) (hF : gFull u) (a0 : Nat) (p1 : Int32) (m : gM) (o : gM × Int32) (h : fX1_dueOn a0 p1 m = some o) (h0 : gIn u a0 1 0) : gMet l G u yX1_dueOn (.code yX1_dueOn cX1_dueOn 2 (some .int)) rmX1_dueOn [.ref a0, .int p1] m o.1 (some (.int o.2)) := by
  refine gMet_of (own := RX1) (k := 0) (by decide) rfl ⟨rfl, rfl⟩ (Nat.le_of_ble_eq_true rfl) [some (.ref a0), some (.int p1)] rfl (fun Y hG hu hnL hLn hRm he => ?_)
  subst hG hu hLn
  unfold fX1_dueOn at h
  refine r_aload_n (pc := 0) dX1_dueOn_0 rfl rfl ?_
  refine r_iload_n (pc := 1) dX1_dueOn_1 rfl rfl ?_
  refine r_aload_n (pc := 2) dX1_dueOn_2 rfl rfl ?_
  refine fX1_43 (pc := 3) dX1_dueOn_3 h0 h (fun x1 h => ?_)
  obtain ⟨m2, x3, q4, h⟩ := gCl_some h
  refine r_callV (kd := 1) (pc := 6) [.int _, .int _] (tX1_isInFirstHolidays _ _ _ hF _ _ _ _ _ q4 h0) ⟨rfl, rfl⟩ cd_X1_isInFirstHolidays wX1_56 nm_X1_isInFirstHolidays rfl (by rw [hRm]; decide) rfl (Nat.le_of_ble_eq_true rfl) rfl (by decide) h0 dX1_dueOn_6 ?_
  refine r_if_eq (pc := 9) (tgt := 16) dX1_dueOn_9 (by decide) h (fun h => ?_) (fun h => ?_)
  · refine r_aload_n (pc := 16) dX1_dueOn_16 rfl rfl ?_
    refine fX1_9 (pc := 17) hF dX1_dueOn_17 h0 (fun b5 => ?_)
    refine r_iload_n (pc := 20) dX1_dueOn_20 rfl rfl ?_
    obtain ⟨m6, x7, q8, h⟩ := gCl_some h
    refine r_callSN (pc := 21) [.int _] (tX5_weekdayOf _ _ _ hF _ _ _ q8) ⟨rfl, rfl⟩ cd_X5_weekdayOf wX1_60 nm_X5_weekdayOf rfl (by rw [hRm]; decide) rfl (Nat.le_of_ble_eq_true rfl) dX1_dueOn_21 ?_
    refine r_iald (pc := 24) dX1_dueOn_24 b5 h (fun x9 h => ?_)
    exact r_iretH dX1_dueOn_25 h he
  · refine r_iconst (pc := 12) (v := 0) dX1_dueOn_12 (by decide) ?_
    refine r_goto (pc := 13) (tgt := 25) dX1_dueOn_13 (by decide) ?_
    exact r_iretH dX1_dueOn_25 h he
set_option maxHeartbeats 4000000 in
set_option maxRecDepth 100000 in
theorem tX0_dueToAll (l : Launch) (G : gX) (u : gU) (hF : gFull u) (a0 : Nat) (m : gM) (o : gM × Int32) (h : fX0_dueToAll a0 m = some o) (h0 : gIn u a0 0 0) : gMet l G u yX0_dueToAll (.code yX0_dueToAll cX0_dueToAll 3 (some .int)) rmX0_dueToAll [.ref a0] m o.1 (some (.int o.2)) := by
  refine gMet_of (own := RX0) (k := 2) (by decide) rfl ⟨rfl, rfl⟩ (Nat.le_of_ble_eq_true rfl) [some (.ref a0), none, none] rfl (fun Y hG hu hnL hLn hRm he => ?_)
  subst hG hu hLn
  unfold fX0_dueToAll at h
  refine r_iconst (pc := 0) (v := 0) dX0_dueToAll_0 (by decide) ?_
  refine r_istore_n (pc := 1) dX0_dueToAll_1 rfl (by rw [hnL]; decide) rfl ?_
  refine r_iconst (pc := 2) (v := 0) dX0_dueToAll_2 (by decide) ?_
  refine r_istore_n (pc := 3) dX0_dueToAll_3 rfl (by rw [hnL]; decide) rfl ?_
  have L13 : ∀ (n11 : Nat) (v14 : Int32) (v15 : Int32) (m16 : gM), fX0_dueToAll_L4 a0 n11 v14 v15 m16 = some o → AW Y cX0_dueToAll RX0 4 [some (.ref a0), some (.int v14), some (.int v15)] [] m16 := by
    intro n11
    induction n11 with
    | zero =>
      intro v14 v15 m16 h
      exact absurd h (by simp [fX0_dueToAll_L4])
    | succ n11 ih12 =>
      intro v14 v15 m16 h
      rw [fX0_dueToAll_L4] at h
      refine r_iload_n (pc := 4) dX0_dueToAll_4 rfl rfl ?_
      refine r_aload_n (pc := 5) dX0_dueToAll_5 rfl rfl ?_
      refine fX0_35 (pc := 6) dX0_dueToAll_6 h0 h (fun x17 h => ?_)
      refine r_icmp_ge (pc := 9) (tgt := 34) dX0_dueToAll_9 (by decide) h (fun h => ?_) (fun h => ?_)
      · refine r_iload_n (pc := 34) dX0_dueToAll_34 rfl rfl ?_
        exact r_iretH dX0_dueToAll_35 h he
      · refine r_iload_n (pc := 12) dX0_dueToAll_12 rfl rfl ?_
        refine r_aload_n (pc := 13) dX0_dueToAll_13 rfl rfl ?_
        refine fX0_11 (pc := 14) hF dX0_dueToAll_14 h0 (fun b18 => ?_)
        refine r_iload_n (pc := 17) dX0_dueToAll_17 rfl rfl ?_
        refine r_cust (pc := 18) hF dX0_dueToAll_18 b18 h (fun c19 b20 h => ?_)
        refine r_aload_n (pc := 19) dX0_dueToAll_19 rfl rfl ?_
        refine fX0_39 (pc := 20) dX0_dueToAll_20 h0 h (fun x21 h => ?_)
        obtain ⟨m22, x23, q24, h⟩ := gCl_some h
        refine r_callVN (kd := 1) (pc := 23) [.int _] (tX1_dueOn _ _ _ hF _ _ _ _ q24 b20) ⟨rfl, rfl⟩ cd_X1_dueOn wX0_78 nm_X1_dueOn rfl (by rw [hRm]; decide) rfl (Nat.le_of_ble_eq_true rfl) rfl (by decide) b20 dX0_dueToAll_23 ?_
        refine r_iadd (pc := 26) dX0_dueToAll_26 ?_
        refine r_istore_nL (pc := 27) dX0_dueToAll_27 rfl (by rw [hnL]; decide) h (fun x25 h => ?_)
        refine r_iinc (pc := 28) (d := 1) dX0_dueToAll_28 rfl (by decide) (by rw [hnL]; decide) h (fun x26 h => ?_)
        refine r_goto (pc := 31) (tgt := 4) dX0_dueToAll_31 (by decide) ?_
        exact r_mask [true, true, true] rfl (ih12 _ _ _ h)
  exact r_mask [true, true, true] rfl (L13 _ _ _ _ h)
set_option maxHeartbeats 4000000 in
set_option maxRecDepth 100000 in
theorem tX0_numberOf (l : Launch) (G : gX) (u : gU) (hF : gFull u) (a0 : Nat) (p1 : Int32) (m : gM) (o : gM × Int32) (h : fX0_numberOf a0 p1 m = some o) (h0 : gIn u a0 0 0) : gMet l G u yX0_numberOf (.code yX0_numberOf cX0_numberOf 2 (some .int)) rmX0_numberOf [.ref a0, .int p1] m o.1 (some (.int o.2)) := by
  refine gMet_of (own := RX0) (k := 0) (by decide) rfl ⟨rfl, rfl⟩ (Nat.le_of_ble_eq_true rfl) [some (.ref a0), some (.int p1)] rfl (fun Y hG hu hnL hLn hRm he => ?_)
  subst hG hu hLn
  unfold fX0_numberOf at h
  refine r_iload_n (pc := 0) dX0_numberOf_0 rfl rfl ?_
  refine r_sw h (fun g1 h => ?_) (fun g1 h => ?_)
  · refine r_tabIn (pc := 1) (tgt := 64) (v := 0) dX0_numberOf_1 g1 (by decide) (by decide) rfl (by decide) ?_
    refine r_aload_n (pc := 64) dX0_numberOf_64 rfl rfl ?_
    refine fX0_35 (pc := 65) dX0_numberOf_65 h0 h (fun x2 h => ?_)
    exact r_iretH dX0_numberOf_68 h he
  refine r_sw h (fun g3 h => ?_) (fun g3 h => ?_)
  · refine r_tabIn (pc := 1) (tgt := 69) (v := 1) dX0_numberOf_1 g3 (by decide) (by decide) rfl (by decide) ?_
    refine r_aload_n (pc := 69) dX0_numberOf_69 rfl rfl ?_
    refine fX0_39 (pc := 70) dX0_numberOf_70 h0 h (fun x4 h => ?_)
    exact r_iretH dX0_numberOf_73 h he
  refine r_sw h (fun g5 h => ?_) (fun g5 h => ?_)
  · refine r_tabIn (pc := 1) (tgt := 74) (v := 2) dX0_numberOf_1 g5 (by decide) (by decide) rfl (by decide) ?_
    refine r_aload_n (pc := 74) dX0_numberOf_74 rfl rfl ?_
    refine fX0_42 (pc := 75) dX0_numberOf_75 h0 h (fun x6 h => ?_)
    exact r_iretH dX0_numberOf_78 h he
  refine r_sw h (fun g7 h => ?_) (fun g7 h => ?_)
  · refine r_tabIn (pc := 1) (tgt := 79) (v := 3) dX0_numberOf_1 g7 (by decide) (by decide) rfl (by decide) ?_
    refine r_aload_n (pc := 79) dX0_numberOf_79 rfl rfl ?_
    refine r_iconst (pc := 80) (v := 3) dX0_numberOf_80 (by decide) ?_
    obtain ⟨m8, x9, q10, h⟩ := gCl_some h
    refine r_callV (kd := 0) (pc := 81) [.int _] (tX0_sumOf _ _ _ hF _ _ _ _ q10 h0) ⟨rfl, rfl⟩ cd_X0_sumOf wX0_67 nm_X0_sumOf rfl (by rw [hRm]; decide) rfl (Nat.le_of_ble_eq_true rfl) rfl (by decide) h0 dX0_numberOf_81 ?_
    exact r_iretH dX0_numberOf_84 h he
  refine r_sw h (fun g11 h => ?_) (fun g11 h => ?_)
  · refine r_tabIn (pc := 1) (tgt := 85) (v := 4) dX0_numberOf_1 g11 (by decide) (by decide) rfl (by decide) ?_
    refine r_aload_n (pc := 85) dX0_numberOf_85 rfl rfl ?_
    refine r_iconst (pc := 86) (v := 4) dX0_numberOf_86 (by decide) ?_
    obtain ⟨m12, x13, q14, h⟩ := gCl_some h
    refine r_callV (kd := 0) (pc := 87) [.int _] (tX0_sumOf _ _ _ hF _ _ _ _ q14 h0) ⟨rfl, rfl⟩ cd_X0_sumOf wX0_67 nm_X0_sumOf rfl (by rw [hRm]; decide) rfl (Nat.le_of_ble_eq_true rfl) rfl (by decide) h0 dX0_numberOf_87 ?_
    exact r_iretH dX0_numberOf_90 h he
  refine r_sw h (fun g15 h => ?_) (fun g15 h => ?_)
  · refine r_tabIn (pc := 1) (tgt := 91) (v := 5) dX0_numberOf_1 g15 (by decide) (by decide) rfl (by decide) ?_
    refine r_aload_n (pc := 91) dX0_numberOf_91 rfl rfl ?_
    refine fX0_45 (pc := 92) dX0_numberOf_92 h0 h (fun x16 h => ?_)
    exact r_iretH dX0_numberOf_95 h he
  refine r_sw h (fun g17 h => ?_) (fun g17 h => ?_)
  · refine r_tabIn (pc := 1) (tgt := 96) (v := 6) dX0_numberOf_1 g17 (by decide) (by decide) rfl (by decide) ?_
    refine r_aload_n (pc := 96) dX0_numberOf_96 rfl rfl ?_
    refine r_iconst (pc := 97) (v := 2) dX0_numberOf_97 (by decide) ?_
    obtain ⟨m18, x19, q20, h⟩ := gCl_some h
    refine r_callV (kd := 0) (pc := 98) [.int _] (tX0_sumOf _ _ _ hF _ _ _ _ q20 h0) ⟨rfl, rfl⟩ cd_X0_sumOf wX0_67 nm_X0_sumOf rfl (by rw [hRm]; decide) rfl (Nat.le_of_ble_eq_true rfl) rfl (by decide) h0 dX0_numberOf_98 ?_
    exact r_iretH dX0_numberOf_101 h he
  refine r_sw h (fun g21 h => ?_) (fun g21 h => ?_)
  · refine r_tabIn (pc := 1) (tgt := 102) (v := 7) dX0_numberOf_1 g21 (by decide) (by decide) rfl (by decide) ?_
    refine r_aload_n (pc := 102) dX0_numberOf_102 rfl rfl ?_
    refine r_iconst (pc := 103) (v := 5) dX0_numberOf_103 (by decide) ?_
    obtain ⟨m22, x23, q24, h⟩ := gCl_some h
    refine r_callV (kd := 0) (pc := 104) [.int _] (tX0_sumOf _ _ _ hF _ _ _ _ q24 h0) ⟨rfl, rfl⟩ cd_X0_sumOf wX0_67 nm_X0_sumOf rfl (by rw [hRm]; decide) rfl (Nat.le_of_ble_eq_true rfl) rfl (by decide) h0 dX0_numberOf_104 ?_
    exact r_iretH dX0_numberOf_107 h he
  refine r_sw h (fun g25 h => ?_) (fun g25 h => ?_)
  · refine r_tabIn (pc := 1) (tgt := 108) (v := 8) dX0_numberOf_1 g25 (by decide) (by decide) rfl (by decide) ?_
    refine r_aload_n (pc := 108) dX0_numberOf_108 rfl rfl ?_
    refine fX0_48 (pc := 109) dX0_numberOf_109 h0 h (fun x26 h => ?_)
    exact r_iretH dX0_numberOf_112 h he
  refine r_sw h (fun g27 h => ?_) (fun g27 h => ?_)
  · refine r_tabIn (pc := 1) (tgt := 113) (v := 9) dX0_numberOf_1 g27 (by decide) (by decide) rfl (by decide) ?_
    refine r_aload_n (pc := 113) dX0_numberOf_113 rfl rfl ?_
    refine fX0_51 (pc := 114) dX0_numberOf_114 h0 h (fun x28 h => ?_)
    exact r_iretH dX0_numberOf_117 h he
  refine r_sw h (fun g29 h => ?_) (fun g29 h => ?_)
  · refine r_tabIn (pc := 1) (tgt := 118) (v := 10) dX0_numberOf_1 g29 (by decide) (by decide) rfl (by decide) ?_
    refine r_aload_n (pc := 118) dX0_numberOf_118 rfl rfl ?_
    refine r_bipush (pc := 119) (v := 6) dX0_numberOf_119 (by decide) ?_
    obtain ⟨m30, x31, q32, h⟩ := gCl_some h
    refine r_callV (kd := 0) (pc := 121) [.int _] (tX0_sumOf _ _ _ hF _ _ _ _ q32 h0) ⟨rfl, rfl⟩ cd_X0_sumOf wX0_67 nm_X0_sumOf rfl (by rw [hRm]; decide) rfl (Nat.le_of_ble_eq_true rfl) rfl (by decide) h0 dX0_numberOf_121 ?_
    exact r_iretH dX0_numberOf_124 h he
  refine r_sw h (fun g33 h => ?_) (fun g33 h => ?_)
  · refine r_tabIn (pc := 1) (tgt := 125) (v := 11) dX0_numberOf_1 g33 (by decide) (by decide) rfl (by decide) ?_
    refine r_aload_n (pc := 125) dX0_numberOf_125 rfl rfl ?_
    refine r_bipush (pc := 126) (v := 7) dX0_numberOf_126 (by decide) ?_
    obtain ⟨m34, x35, q36, h⟩ := gCl_some h
    refine r_callV (kd := 0) (pc := 128) [.int _] (tX0_sumOf _ _ _ hF _ _ _ _ q36 h0) ⟨rfl, rfl⟩ cd_X0_sumOf wX0_67 nm_X0_sumOf rfl (by rw [hRm]; decide) rfl (Nat.le_of_ble_eq_true rfl) rfl (by decide) h0 dX0_numberOf_128 ?_
    exact r_iretH dX0_numberOf_131 h he
  have g1n := gNe g1 (z := 0) (by decide)
  have g3n := gNe g3 (z := 1) (by decide)
  have g5n := gNe g5 (z := 2) (by decide)
  have g7n := gNe g7 (z := 3) (by decide)
  have g11n := gNe g11 (z := 4) (by decide)
  have g15n := gNe g15 (z := 5) (by decide)
  have g17n := gNe g17 (z := 6) (by decide)
  have g21n := gNe g21 (z := 7) (by decide)
  have g25n := gNe g25 (z := 8) (by decide)
  have g27n := gNe g27 (z := 9) (by decide)
  have g29n := gNe g29 (z := 10) (by decide)
  have g33n := gNe g33 (z := 11) (by decide)
  refine r_tabOut (pc := 1) (tgt := 132) dX0_numberOf_1 (by omega) (by decide) ?_
  refine r_aload_n (pc := 132) dX0_numberOf_132 rfl rfl ?_
  obtain ⟨m37, x38, q39, h⟩ := gCl_some h
  refine r_callV (kd := 0) (pc := 133) [] (tX0_dueToAll _ _ _ hF _ _ _ q39 h0) ⟨rfl, rfl⟩ cd_X0_dueToAll wX0_71 nm_X0_dueToAll rfl (by rw [hRm]; decide) rfl (Nat.le_of_ble_eq_true rfl) rfl (by decide) h0 dX0_numberOf_133 ?_
  exact r_iretH dX0_numberOf_136 h he
set_option maxHeartbeats 4000000 in
set_option maxRecDepth 100000 in
theorem tX0_loavesGot (l : Launch) (G : gX) (u : gU) (hF : gFull u) (a0 : Nat) (m : gM) (o : gM × Int32) (h : fX0_loavesGot a0 m = some o) (h0 : gIn u a0 0 0) : gMet l G u yX0_loavesGot (.code yX0_loavesGot cX0_loavesGot 1 (some .int)) rmX0_loavesGot [.ref a0] m o.1 (some (.int o.2)) := by
  refine gMet_of (own := RX0) (k := 0) (by decide) rfl ⟨rfl, rfl⟩ (Nat.le_of_ble_eq_true rfl) [some (.ref a0)] rfl (fun Y hG hu hnL hLn hRm he => ?_)
  subst hG hu hLn
  unfold fX0_loavesGot at h
  refine r_aload_n (pc := 0) dX0_loavesGot_0 rfl rfl ?_
  refine r_iconst (pc := 1) (v := 3) dX0_loavesGot_1 (by decide) ?_
  obtain ⟨m1, x2, q3, h⟩ := gCl_some h
  refine r_callV (kd := 0) (pc := 2) [.int _] (tX0_sumOf _ _ _ hF _ _ _ _ q3 h0) ⟨rfl, rfl⟩ cd_X0_sumOf wX0_67 nm_X0_sumOf rfl (by rw [hRm]; decide) rfl (Nat.le_of_ble_eq_true rfl) rfl (by decide) h0 dX0_loavesGot_2 ?_
  refine r_aload_n (pc := 5) dX0_loavesGot_5 rfl rfl ?_
  refine r_iconst (pc := 6) (v := 4) dX0_loavesGot_6 (by decide) ?_
  obtain ⟨m4, x5, q6, h⟩ := gCl_some h
  refine r_callV (kd := 0) (pc := 7) [.int _] (tX0_sumOf _ _ _ hF _ _ _ _ q6 h0) ⟨rfl, rfl⟩ cd_X0_sumOf wX0_67 nm_X0_sumOf rfl (by rw [hRm]; decide) rfl (Nat.le_of_ble_eq_true rfl) rfl (by decide) h0 dX0_loavesGot_7 ?_
  refine r_iadd (pc := 10) dX0_loavesGot_10 ?_
  exact r_iretH dX0_loavesGot_11 h he
set_option maxHeartbeats 4000000 in
set_option maxRecDepth 100000 in
theorem tX0_isShut (l : Launch) (G : gX) (u : gU) (hF : gFull u) (a0 : Nat) (p1 : Int32) (p2 : Int32) (m : gM) (o : gM × Int32) (h : fX0_isShut a0 p1 p2 m = some o) (h0 : gIn u a0 0 0) : gMet l G u yX0_isShut (.code yX0_isShut cX0_isShut 3 (some .boolean)) rmX0_isShut [.ref a0, .int p1, .int p2] m o.1 (some (.int o.2)) := by
  refine gMet_of (own := RX0) (k := 0) (by decide) rfl ⟨rfl, rfl⟩ (Nat.le_of_ble_eq_true rfl) [some (.ref a0), some (.int p1), some (.int p2)] rfl (fun Y hG hu hnL hLn hRm he => ?_)
  subst hG hu hLn
  unfold fX0_isShut at h
  refine r_aload_n (pc := 0) dX0_isShut_0 rfl rfl ?_
  refine fX0_17 (pc := 1) hF dX0_isShut_1 h0 (fun b1 => ?_)
  refine r_iload_n (pc := 4) dX0_isShut_4 rfl rfl ?_
  refine r_bipush (pc := 5) (v := 7) dX0_isShut_5 (by decide) ?_
  refine r_imul (pc := 7) dX0_isShut_7 ?_
  refine r_iload_n (pc := 8) dX0_isShut_8 rfl rfl ?_
  refine r_iadd (pc := 9) dX0_isShut_9 ?_
  refine r_zald (pc := 10) dX0_isShut_10 b1 h (fun x2 h => ?_)
  exact r_zretH dX0_isShut_11 rfl h he
set_option maxHeartbeats 4000000 in
set_option maxRecDepth 100000 in
theorem tX0_dueInOpenStreets (l : Launch) (G : gX) (u : gU) (hF : gFull u) (a0 : Nat) (p1 : Int32) (m : gM) (o : gM × Int32) (h : fX0_dueInOpenStreets a0 p1 m = some o) (h0 : gIn u a0 0 0) : gMet l G u yX0_dueInOpenStreets (.code yX0_dueInOpenStreets cX0_dueInOpenStreets 4 (some .int)) rmX0_dueInOpenStreets [.ref a0, .int p1] m o.1 (some (.int o.2)) := by
  refine gMet_of (own := RX0) (k := 2) (by decide) rfl ⟨rfl, rfl⟩ (Nat.le_of_ble_eq_true rfl) [some (.ref a0), some (.int p1), none, none] rfl (fun Y hG hu hnL hLn hRm he => ?_)
  subst hG hu hLn
  unfold fX0_dueInOpenStreets at h
  refine r_iconst (pc := 0) (v := 0) dX0_dueInOpenStreets_0 (by decide) ?_
  refine r_istore_n (pc := 1) dX0_dueInOpenStreets_1 rfl (by rw [hnL]; decide) rfl ?_
  refine r_iconst (pc := 2) (v := 0) dX0_dueInOpenStreets_2 (by decide) ?_
  refine r_istore_n (pc := 3) dX0_dueInOpenStreets_3 rfl (by rw [hnL]; decide) rfl ?_
  have L26 : ∀ (n24 : Nat) (v27 : Int32) (v28 : Int32) (m29 : gM), fX0_dueInOpenStreets_L4 a0 p1 n24 v27 v28 m29 = some o → AW Y cX0_dueInOpenStreets RX0 4 [some (.ref a0), some (.int p1), some (.int v27), some (.int v28)] [] m29 := by
    intro n24
    induction n24 with
    | zero =>
      intro v27 v28 m29 h
      exact absurd h (by simp [fX0_dueInOpenStreets_L4])
    | succ n24 ih25 =>
      intro v27 v28 m29 h
      rw [fX0_dueInOpenStreets_L4] at h
      refine r_iload_n (pc := 4) dX0_dueInOpenStreets_4 rfl rfl ?_
      refine r_aload_n (pc := 5) dX0_dueInOpenStreets_5 rfl rfl ?_
      refine fX0_35 (pc := 6) dX0_dueInOpenStreets_6 h0 h (fun x30 h => ?_)
      refine r_icmp_ge (pc := 9) (tgt := 51) dX0_dueInOpenStreets_9 (by decide) h (fun h => ?_) (fun h => ?_)
      · refine r_iload_n (pc := 51) dX0_dueInOpenStreets_51 rfl rfl ?_
        exact r_iretH dX0_dueInOpenStreets_52 h he
      · refine r_aload_n (pc := 12) dX0_dueInOpenStreets_12 rfl rfl ?_
        refine r_aload_n (pc := 13) dX0_dueInOpenStreets_13 rfl rfl ?_
        refine fX0_11 (pc := 14) hF dX0_dueInOpenStreets_14 h0 (fun b31 => ?_)
        refine r_iload_n (pc := 17) dX0_dueInOpenStreets_17 rfl rfl ?_
        refine r_cust (pc := 18) hF dX0_dueInOpenStreets_18 b31 h (fun c32 b33 h => ?_)
        refine fX0_81 (pc := 19) dX0_dueInOpenStreets_19 b33 h (fun x34 h => ?_)
        refine r_iload_n (pc := 22) dX0_dueInOpenStreets_22 rfl rfl ?_
        obtain ⟨m35, x36, q37, h⟩ := gCl_some h
        refine r_callSN (pc := 23) [.int _] (tX5_weekdayOf _ _ _ hF _ _ _ q37) ⟨rfl, rfl⟩ cd_X5_weekdayOf wX0_84 nm_X5_weekdayOf rfl (by rw [hRm]; decide) rfl (Nat.le_of_ble_eq_true rfl) dX0_dueInOpenStreets_23 ?_
        obtain ⟨m38, x39, q40, h⟩ := gCl_some h
        refine r_callV (kd := 0) (pc := 26) [.int _, .int _] (tX0_isShut _ _ _ hF _ _ _ _ _ q40 h0) ⟨rfl, rfl⟩ cd_X0_isShut wX0_87 nm_X0_isShut rfl (by rw [hRm]; decide) rfl (Nat.le_of_ble_eq_true rfl) rfl (by decide) h0 dX0_dueInOpenStreets_26 ?_
        refine r_jnK h (fun (k43 : Int32 → gM → Option (gM × Int32)) => ∀ (x41 : Int32) (m42 : gM), k43 x41 m42 = some o → AW Y cX0_dueInOpenStreets RX0 45 [some (.ref a0), some (.int p1), some (.int x41), some (.int v28)] [] m42) (fun x41 m42 h => ?_) (fun k43 hJ44 h => ?_)
        · refine r_iinc (pc := 45) (d := 1) dX0_dueInOpenStreets_45 rfl (by decide) (by rw [hnL]; decide) h (fun x45 h => ?_)
          refine r_goto (pc := 48) (tgt := 4) dX0_dueInOpenStreets_48 (by decide) ?_
          exact r_mask [true, true, true, true] rfl (ih25 _ _ _ h)
        · refine r_if_ne (pc := 29) (tgt := 45) dX0_dueInOpenStreets_29 (by decide) h (fun h => ?_) (fun h => ?_)
          · exact r_mask [true, true, true, true] rfl (hJ44 _ _ h)
          · refine r_iload_n (pc := 32) dX0_dueInOpenStreets_32 rfl rfl ?_
            refine r_aload_n (pc := 33) dX0_dueInOpenStreets_33 rfl rfl ?_
            refine fX0_11 (pc := 34) hF dX0_dueInOpenStreets_34 h0 (fun b46 => ?_)
            refine r_iload_n (pc := 37) dX0_dueInOpenStreets_37 rfl rfl ?_
            refine r_cust (pc := 38) hF dX0_dueInOpenStreets_38 b46 h (fun c47 b48 h => ?_)
            refine r_iload_n (pc := 39) dX0_dueInOpenStreets_39 rfl rfl ?_
            obtain ⟨m49, x50, q51, h⟩ := gCl_some h
            refine r_callVN (kd := 1) (pc := 40) [.int _] (tX1_dueOn _ _ _ hF _ _ _ _ q51 b48) ⟨rfl, rfl⟩ cd_X1_dueOn wX0_78 nm_X1_dueOn rfl (by rw [hRm]; decide) rfl (Nat.le_of_ble_eq_true rfl) rfl (by decide) b48 dX0_dueInOpenStreets_40 ?_
            refine r_iadd (pc := 43) dX0_dueInOpenStreets_43 ?_
            refine r_istore_nL (pc := 44) dX0_dueInOpenStreets_44 rfl (by rw [hnL]; decide) h (fun x52 h => ?_)
            exact r_mask [true, true, true, true] rfl (hJ44 _ _ h)
  exact r_mask [true, true, true, true] rfl (L26 _ _ _ _ h)
set_option maxHeartbeats 4000000 in
set_option maxRecDepth 100000 in
theorem tX5_isWithin (l : Launch) (G : gX) (u : gU) (hF : gFull u) (p1 : Int32) (p2 : Int32) (p3 : Int32) (m : gM) (o : gM × Int32) (h : fX5_isWithin p1 p2 p3 m = some o)  : gMet l G u yX5_isWithin (.code yX5_isWithin cX5_isWithin 3 (some .boolean)) rmX5_isWithin [.int p1, .int p2, .int p3] m o.1 (some (.int o.2)) := by
  refine gMet_of (own := RX5) (k := 0) (by decide) rfl ⟨rfl, rfl⟩ (Nat.le_of_ble_eq_true rfl) [some (.int p1), some (.int p2), some (.int p3)] rfl (fun Y hG hu hnL hLn hRm he => ?_)
  subst hG hu hLn
  unfold fX5_isWithin at h
  refine r_iload_n (pc := 0) dX5_isWithin_0 rfl rfl ?_
  refine r_iload_n (pc := 1) dX5_isWithin_1 rfl rfl ?_
  refine r_icmp_lt (pc := 2) (tgt := 14) dX5_isWithin_2 (by decide) h (fun h => ?_) (fun h => ?_)
  · refine r_iconst (pc := 14) (v := 0) dX5_isWithin_14 (by decide) ?_
    exact r_zretH dX5_isWithin_15 rfl h he
  · refine r_iload_n (pc := 5) dX5_isWithin_5 rfl rfl ?_
    refine r_iload_n (pc := 6) dX5_isWithin_6 rfl rfl ?_
    refine r_icmp_gt (pc := 7) (tgt := 14) dX5_isWithin_7 (by decide) h (fun h => ?_) (fun h => ?_)
    · refine r_iconst (pc := 14) (v := 0) dX5_isWithin_14 (by decide) ?_
      exact r_zretH dX5_isWithin_15 rfl h he
    · refine r_iconst (pc := 10) (v := 1) dX5_isWithin_10 (by decide) ?_
      refine r_goto (pc := 11) (tgt := 15) dX5_isWithin_11 (by decide) ?_
      exact r_zretH dX5_isWithin_15 rfl h he
set_option maxHeartbeats 4000000 in
set_option maxRecDepth 100000 in
theorem tX0_hasCustomer (l : Launch) (G : gX) (u : gU) (hF : gFull u) (a0 : Nat) (p1 : Int32) (m : gM) (o : gM × Int32) (h : fX0_hasCustomer a0 p1 m = some o) (h0 : gIn u a0 0 0) : gMet l G u yX0_hasCustomer (.code yX0_hasCustomer cX0_hasCustomer 2 (some .boolean)) rmX0_hasCustomer [.ref a0, .int p1] m o.1 (some (.int o.2)) := by
  refine gMet_of (own := RX0) (k := 0) (by decide) rfl ⟨rfl, rfl⟩ (Nat.le_of_ble_eq_true rfl) [some (.ref a0), some (.int p1)] rfl (fun Y hG hu hnL hLn hRm he => ?_)
  subst hG hu hLn
  unfold fX0_hasCustomer at h
  refine r_iload_n (pc := 0) dX0_hasCustomer_0 rfl rfl ?_
  refine r_iconst (pc := 1) (v := 0) dX0_hasCustomer_1 (by decide) ?_
  refine r_aload_n (pc := 2) dX0_hasCustomer_2 rfl rfl ?_
  refine fX0_35 (pc := 3) dX0_hasCustomer_3 h0 h (fun x1 h => ?_)
  refine r_iconst (pc := 6) (v := 1) dX0_hasCustomer_6 (by decide) ?_
  refine r_isub (pc := 7) dX0_hasCustomer_7 ?_
  obtain ⟨m2, x3, q4, h⟩ := gCl_some h
  refine r_callSN (pc := 8) [.int _, .int _, .int _] (tX5_isWithin _ _ _ hF _ _ _ _ _ q4) ⟨rfl, rfl⟩ cd_X5_isWithin wX0_91 nm_X5_isWithin rfl (by rw [hRm]; decide) rfl (Nat.le_of_ble_eq_true rfl) dX0_hasCustomer_8 ?_
  exact r_zretH dX0_hasCustomer_11 rfl h he
set_option maxHeartbeats 4000000 in
set_option maxRecDepth 100000 in
theorem tX5_isStreet (l : Launch) (G : gX) (u : gU) (hF : gFull u) (p1 : Int32) (m : gM) (o : gM × Int32) (h : fX5_isStreet p1 m = some o)  : gMet l G u yX5_isStreet (.code yX5_isStreet cX5_isStreet 1 (some .boolean)) rmX5_isStreet [.int p1] m o.1 (some (.int o.2)) := by
  refine gMet_of (own := RX5) (k := 0) (by decide) rfl ⟨rfl, rfl⟩ (Nat.le_of_ble_eq_true rfl) [some (.int p1)] rfl (fun Y hG hu hnL hLn hRm he => ?_)
  subst hG hu hLn
  unfold fX5_isStreet at h
  refine r_iload_n (pc := 0) dX5_isStreet_0 rfl rfl ?_
  refine r_iconst (pc := 1) (v := 0) dX5_isStreet_1 (by decide) ?_
  refine r_iconst (pc := 2) (v := 3) dX5_isStreet_2 (by decide) ?_
  obtain ⟨m1, x2, q3, h⟩ := gCl_some h
  refine r_callS (pc := 3) [.int _, .int _, .int _] (tX5_isWithin _ _ _ hF _ _ _ _ _ q3) ⟨rfl, rfl⟩ cd_X5_isWithin wX5_41 nm_X5_isWithin rfl (by rw [hRm]; decide) rfl (Nat.le_of_ble_eq_true rfl) dX5_isStreet_3 ?_
  exact r_zretH dX5_isStreet_6 rfl h he
set_option maxHeartbeats 4000000 in
set_option maxRecDepth 100000 in
theorem tX0_firstRefusal (l : Launch) (G : gX) (u : gU) (hF : gFull u) (p1 : Int32) (p2 : Int32) (p3 : Int32) (m : gM) (o : gM × Nat) (h : fX0_firstRefusal p1 p2 p3 m = some o)  : gMet l G u yX0_firstRefusal (.code yX0_firstRefusal cX0_firstRefusal 3 (some (.object "LoafRounds$Refusal"))) rmX0_firstRefusal [.int p1, .int p2, .int p3] m o.1 (some (.ref o.2)) := by
  refine gMet_of (own := RX0) (k := 0) (by decide) rfl ⟨rfl, rfl⟩ (Nat.le_of_ble_eq_true rfl) [some (.int p1), some (.int p2), some (.int p3)] rfl (fun Y hG hu hnL hLn hRm he => ?_)
  subst hG hu hLn
  unfold fX0_firstRefusal at h
  refine r_iload_n (pc := 0) dX0_firstRefusal_0 rfl rfl ?_
  refine r_if_ne (pc := 1) (tgt := 8) dX0_firstRefusal_1 (by decide) h (fun h => ?_) (fun h => ?_)
  · refine r_iload_n (pc := 8) dX0_firstRefusal_8 rfl rfl ?_
    refine r_if_ne (pc := 9) (tgt := 16) dX0_firstRefusal_9 (by decide) h (fun h => ?_) (fun h => ?_)
    · refine r_iload_n (pc := 16) dX0_firstRefusal_16 rfl rfl ?_
      refine r_if_eq (pc := 17) (tgt := 26) dX0_firstRefusal_17 (by decide) h (fun h => ?_) (fun h => ?_)
      · refine sX0_134 (pc := 26) dX0_firstRefusal_26 ?_
        exact r_aretH dX0_firstRefusal_29 (Or.inl ⟨_, rfl⟩) h he
      · refine sX0_131 (pc := 20) dX0_firstRefusal_20 ?_
        refine r_goto (pc := 23) (tgt := 29) dX0_firstRefusal_23 (by decide) ?_
        exact r_aretH dX0_firstRefusal_29 (Or.inl ⟨_, rfl⟩) h he
    · refine sX0_128 (pc := 12) dX0_firstRefusal_12 ?_
      exact r_aretH dX0_firstRefusal_15 (Or.inl ⟨_, rfl⟩) h he
  · refine sX0_122 (pc := 4) dX0_firstRefusal_4 ?_
    exact r_aretH dX0_firstRefusal_7 (Or.inl ⟨_, rfl⟩) h he
set_option maxHeartbeats 4000000 in
set_option maxRecDepth 100000 in
theorem tX5_isWeekday (l : Launch) (G : gX) (u : gU) (hF : gFull u) (p1 : Int32) (m : gM) (o : gM × Int32) (h : fX5_isWeekday p1 m = some o)  : gMet l G u yX5_isWeekday (.code yX5_isWeekday cX5_isWeekday 1 (some .boolean)) rmX5_isWeekday [.int p1] m o.1 (some (.int o.2)) := by
  refine gMet_of (own := RX5) (k := 0) (by decide) rfl ⟨rfl, rfl⟩ (Nat.le_of_ble_eq_true rfl) [some (.int p1)] rfl (fun Y hG hu hnL hLn hRm he => ?_)
  subst hG hu hLn
  unfold fX5_isWeekday at h
  refine r_iload_n (pc := 0) dX5_isWeekday_0 rfl rfl ?_
  refine r_iconst (pc := 1) (v := 0) dX5_isWeekday_1 (by decide) ?_
  refine r_bipush (pc := 2) (v := 6) dX5_isWeekday_2 (by decide) ?_
  obtain ⟨m1, x2, q3, h⟩ := gCl_some h
  refine r_callS (pc := 4) [.int _, .int _, .int _] (tX5_isWithin _ _ _ hF _ _ _ _ _ q3) ⟨rfl, rfl⟩ cd_X5_isWithin wX5_41 nm_X5_isWithin rfl (by rw [hRm]; decide) rfl (Nat.le_of_ble_eq_true rfl) dX5_isWeekday_4 ?_
  exact r_zretH dX5_isWeekday_7 rfl h he
set_option maxHeartbeats 4000000 in
set_option maxRecDepth 100000 in
theorem tX5_isSetting (l : Launch) (G : gX) (u : gU) (hF : gFull u) (p1 : Int32) (m : gM) (o : gM × Int32) (h : fX5_isSetting p1 m = some o)  : gMet l G u yX5_isSetting (.code yX5_isSetting cX5_isSetting 1 (some .boolean)) rmX5_isSetting [.int p1] m o.1 (some (.int o.2)) := by
  refine gMet_of (own := RX5) (k := 0) (by decide) rfl ⟨rfl, rfl⟩ (Nat.le_of_ble_eq_true rfl) [some (.int p1)] rfl (fun Y hG hu hnL hLn hRm he => ?_)
  subst hG hu hLn
  unfold fX5_isSetting at h
  refine r_iload_n (pc := 0) dX5_isSetting_0 rfl rfl ?_
  refine r_iconst (pc := 1) (v := 0) dX5_isSetting_1 (by decide) ?_
  refine r_iconst (pc := 2) (v := 4) dX5_isSetting_2 (by decide) ?_
  obtain ⟨m1, x2, q3, h⟩ := gCl_some h
  refine r_callS (pc := 3) [.int _, .int _, .int _] (tX5_isWithin _ _ _ hF _ _ _ _ _ q3) ⟨rfl, rfl⟩ cd_X5_isWithin wX5_41 nm_X5_isWithin rfl (by rw [hRm]; decide) rfl (Nat.le_of_ble_eq_true rfl) dX5_isSetting_3 ?_
  exact r_zretH dX5_isSetting_6 rfl h he
set_option maxHeartbeats 4000000 in
set_option maxRecDepth 100000 in
theorem tX0_refusalOf (l : Launch) (G : gX) (u : gU) (hF : gFull u) (a0 : Nat) (p1 : Int32) (p2 : Int32) (p3 : Int32) (p4 : Int32) (m : gM) (o : gM × Nat) (h : fX0_refusalOf a0 p1 p2 p3 p4 m = some o) (h0 : gIn u a0 0 0) : gMet l G u yX0_refusalOf (.code yX0_refusalOf cX0_refusalOf 5 (some (.object "LoafRounds$Refusal"))) rmX0_refusalOf [.ref a0, .int p1, .int p2, .int p3, .int p4] m o.1 (some (.ref o.2)) := by
  refine gMet_of (own := RX0) (k := 0) (by decide) rfl ⟨rfl, rfl⟩ (Nat.le_of_ble_eq_true rfl) [some (.ref a0), some (.int p1), some (.int p2), some (.int p3), some (.int p4)] rfl (fun Y hG hu hnL hLn hRm he => ?_)
  subst hG hu hLn
  unfold fX0_refusalOf at h
  refine r_iload_n (pc := 0) dX0_refusalOf_0 rfl rfl ?_
  refine r_sw h (fun g1 h => ?_) (fun g1 h => ?_)
  · refine r_tabIn (pc := 1) (tgt := 44) (v := 0) dX0_refusalOf_1 g1 (by decide) (by decide) rfl (by decide) ?_
    refine r_iload_n (pc := 44) dX0_refusalOf_44 rfl rfl ?_
    obtain ⟨m2, x3, q4, h⟩ := gCl_some h
    refine r_callSN (pc := 45) [.int _] (tX5_isStreet _ _ _ hF _ _ _ q4) ⟨rfl, rfl⟩ cd_X5_isStreet wX0_95 nm_X5_isStreet rfl (by rw [hRm]; decide) rfl (Nat.le_of_ble_eq_true rfl) dX0_refusalOf_45 ?_
    refine r_iload_n (pc := 48) dX0_refusalOf_48 rfl rfl ?_
    refine r_iconst (pc := 49) (v := 0) dX0_refusalOf_49 (by decide) ?_
    refine r_ldc (pc := 50) (v := 9999999) dX0_refusalOf_50 cX0_99 ?_
    obtain ⟨m5, x6, q7, h⟩ := gCl_some h
    refine r_callSN (pc := 52) [.int _, .int _, .int _] (tX5_isWithin _ _ _ hF _ _ _ _ _ q7) ⟨rfl, rfl⟩ cd_X5_isWithin wX0_91 nm_X5_isWithin rfl (by rw [hRm]; decide) rfl (Nat.le_of_ble_eq_true rfl) dX0_refusalOf_52 ?_
    refine r_aload_n (pc := 55) dX0_refusalOf_55 rfl rfl ?_
    refine fX0_35 (pc := 56) dX0_refusalOf_56 h0 h (fun x8 h => ?_)
    refine r_bipush (pc := 59) (v := 10) dX0_refusalOf_59 (by decide) ?_
    refine r_jn1 h (fun x9 => AW Y cX0_refusalOf RX0 69 [none, none, none, none, none] [.int x9, .int x6, .int x3] m5) (fun x9 h => ?_) (fun hJ10 => ?_)
    · obtain ⟨m12, x13, q14, h⟩ := gCl_some h
      refine r_callS (pc := 69) [.int _, .int _, .int _] (tX0_firstRefusal _ _ _ hF _ _ _ _ _ q14) ⟨rfl, rfl⟩ cd_X0_firstRefusal wX0_100 nm_X0_firstRefusal rfl (by rw [hRm]; decide) rfl (Nat.le_of_ble_eq_true rfl) dX0_refusalOf_69 ?_
      obtain ⟨b15, h⟩ := gOkE_some h
      exact r_aretH dX0_refusalOf_72 (Or.inl ⟨_, rfl⟩) h he
    · refine r_icmpC_ge (pc := 61) (tgt := 68) dX0_refusalOf_61 (by decide) (fun g11 => ?_) (fun g11 => ?_)
      · refine r_iconst (pc := 68) (v := 0) dX0_refusalOf_68 (by decide) ?_
        exact r_mask [false, false, false, false, false] rfl (hJ10 _ (by rw [if_pos g11]))
      · refine r_iconst (pc := 64) (v := 1) dX0_refusalOf_64 (by decide) ?_
        refine r_goto (pc := 65) (tgt := 69) dX0_refusalOf_65 (by decide) ?_
        exact r_mask [false, false, false, false, false] rfl (hJ10 _ (by rw [if_neg g11]))
  refine r_sw h (fun g16 h => ?_) (fun g16 h => ?_)
  · refine r_tabIn (pc := 1) (tgt := 73) (v := 1) dX0_refusalOf_1 g16 (by decide) (by decide) rfl (by decide) ?_
    refine r_aload_n (pc := 73) dX0_refusalOf_73 rfl rfl ?_
    refine r_iload_n (pc := 74) dX0_refusalOf_74 rfl rfl ?_
    obtain ⟨m17, x18, q19, h⟩ := gCl_some h
    refine r_callV (kd := 0) (pc := 75) [.int _] (tX0_hasCustomer _ _ _ hF _ _ _ _ q19 h0) ⟨rfl, rfl⟩ cd_X0_hasCustomer wX0_104 nm_X0_hasCustomer rfl (by rw [hRm]; decide) rfl (Nat.le_of_ble_eq_true rfl) rfl (by decide) h0 dX0_refusalOf_75 ?_
    refine r_jnK h (fun (k22 : Int32 → gM → Option (gM × Nat)) => ∀ (x20 : Int32) (m21 : gM), k22 x20 m21 = some o → AW Y cX0_refusalOf RX0 93 [none, none, none, none, some (.int p4)] [.int x20] m21) (fun x20 m21 h => ?_) (fun k22 hJ23 h => ?_)
    · refine r_iload (pc := 93) dX0_refusalOf_93 rfl ?_
      refine r_iconst (pc := 95) (v := 0) dX0_refusalOf_95 (by decide) ?_
      refine r_bipush (pc := 96) (v := 9) dX0_refusalOf_96 (by decide) ?_
      obtain ⟨m24, x25, q26, h⟩ := gCl_some h
      refine r_callSN (pc := 98) [.int _, .int _, .int _] (tX5_isWithin _ _ _ hF _ _ _ _ _ q26) ⟨rfl, rfl⟩ cd_X5_isWithin wX0_91 nm_X5_isWithin rfl (by rw [hRm]; decide) rfl (Nat.le_of_ble_eq_true rfl) dX0_refusalOf_98 ?_
      refine r_iconst (pc := 101) (v := 1) dX0_refusalOf_101 (by decide) ?_
      obtain ⟨m27, x28, q29, h⟩ := gCl_some h
      refine r_callS (pc := 102) [.int _, .int _, .int _] (tX0_firstRefusal _ _ _ hF _ _ _ _ _ q29) ⟨rfl, rfl⟩ cd_X0_firstRefusal wX0_100 nm_X0_firstRefusal rfl (by rw [hRm]; decide) rfl (Nat.le_of_ble_eq_true rfl) dX0_refusalOf_102 ?_
      obtain ⟨b30, h⟩ := gOkE_some h
      exact r_aretH dX0_refusalOf_105 (Or.inl ⟨_, rfl⟩) h he
    · refine r_if_eq (pc := 78) (tgt := 92) dX0_refusalOf_78 (by decide) h (fun h => ?_) (fun h => ?_)
      · refine r_iconst (pc := 92) (v := 0) dX0_refusalOf_92 (by decide) ?_
        exact r_mask [false, false, false, false, true] rfl (hJ23 _ _ h)
      · refine r_iload_n (pc := 81) dX0_refusalOf_81 rfl rfl ?_
        obtain ⟨m31, x32, q33, h⟩ := gCl_some h
        refine r_callSN (pc := 82) [.int _] (tX5_isWeekday _ _ _ hF _ _ _ q33) ⟨rfl, rfl⟩ cd_X5_isWeekday wX0_107 nm_X5_isWeekday rfl (by rw [hRm]; decide) rfl (Nat.le_of_ble_eq_true rfl) dX0_refusalOf_82 ?_
        refine r_if_eq (pc := 85) (tgt := 92) dX0_refusalOf_85 (by decide) h (fun h => ?_) (fun h => ?_)
        · refine r_iconst (pc := 92) (v := 0) dX0_refusalOf_92 (by decide) ?_
          exact r_mask [false, false, false, false, true] rfl (hJ23 _ _ h)
        · refine r_iconst (pc := 88) (v := 1) dX0_refusalOf_88 (by decide) ?_
          refine r_goto (pc := 89) (tgt := 93) dX0_refusalOf_89 (by decide) ?_
          exact r_mask [false, false, false, false, true] rfl (hJ23 _ _ h)
  refine r_sw h (fun g34 h => ?_) (fun g34 h => ?_)
  · refine r_tabIn (pc := 1) (tgt := 106) (v := 2) dX0_refusalOf_1 g34 (by decide) (by decide) rfl (by decide) ?_
    refine r_aload_n (pc := 106) dX0_refusalOf_106 rfl rfl ?_
    refine r_iload_n (pc := 107) dX0_refusalOf_107 rfl rfl ?_
    obtain ⟨m35, x36, q37, h⟩ := gCl_some h
    refine r_callV (kd := 0) (pc := 108) [.int _] (tX0_hasCustomer _ _ _ hF _ _ _ _ q37 h0) ⟨rfl, rfl⟩ cd_X0_hasCustomer wX0_104 nm_X0_hasCustomer rfl (by rw [hRm]; decide) rfl (Nat.le_of_ble_eq_true rfl) rfl (by decide) h0 dX0_refusalOf_108 ?_
    refine r_iload_n (pc := 111) dX0_refusalOf_111 rfl rfl ?_
    refine r_iconst (pc := 112) (v := 0) dX0_refusalOf_112 (by decide) ?_
    refine r_sipush (pc := 113) (v := 999) dX0_refusalOf_113 (by decide) ?_
    obtain ⟨m38, x39, q40, h⟩ := gCl_some h
    refine r_callSN (pc := 116) [.int _, .int _, .int _] (tX5_isWithin _ _ _ hF _ _ _ _ _ q40) ⟨rfl, rfl⟩ cd_X5_isWithin wX0_91 nm_X5_isWithin rfl (by rw [hRm]; decide) rfl (Nat.le_of_ble_eq_true rfl) dX0_refusalOf_116 ?_
    refine r_jnK h (fun (k43 : Int32 → gM → Option (gM × Nat)) => ∀ (x41 : Int32) (m42 : gM), k43 x41 m42 = some o → AW Y cX0_refusalOf RX0 139 [some (.ref a0), none, some (.int p2), none, none] [.int x41, .int x36] m42) (fun x41 m42 h => ?_) (fun k43 hJ44 h => ?_)
    · refine r_aload_n (pc := 139) dX0_refusalOf_139 rfl rfl ?_
      refine r_iload_n (pc := 140) dX0_refusalOf_140 rfl rfl ?_
      obtain ⟨m45, x46, q47, h⟩ := gCl_some h
      refine r_callV (kd := 0) (pc := 141) [.int _] (tX0_hasCustomer _ _ _ hF _ _ _ _ q47 h0) ⟨rfl, rfl⟩ cd_X0_hasCustomer wX0_104 nm_X0_hasCustomer rfl (by rw [hRm]; decide) rfl (Nat.le_of_ble_eq_true rfl) rfl (by decide) h0 dX0_refusalOf_141 ?_
      refine r_jnK h (fun (k49 : Int32 → Option (gM × Nat)) => ∀ (x48 : Int32), k49 x48 = some o → AW Y cX0_refusalOf RX0 165 [none, none, none, none, none] [.int x48, .int x41, .int x36] m45) (fun x48 h => ?_) (fun k49 hJ50 h => ?_)
      · obtain ⟨m51, x52, q53, h⟩ := gCl_some h
        refine r_callS (pc := 165) [.int _, .int _, .int _] (tX0_firstRefusal _ _ _ hF _ _ _ _ _ q53) ⟨rfl, rfl⟩ cd_X0_firstRefusal wX0_100 nm_X0_firstRefusal rfl (by rw [hRm]; decide) rfl (Nat.le_of_ble_eq_true rfl) dX0_refusalOf_165 ?_
        obtain ⟨b54, h⟩ := gOkE_some h
        exact r_aretH dX0_refusalOf_168 (Or.inl ⟨_, rfl⟩) h he
      · refine r_if_eq (pc := 144) (tgt := 164) dX0_refusalOf_144 (by decide) h (fun h => ?_) (fun h => ?_)
        · refine r_iconst (pc := 164) (v := 0) dX0_refusalOf_164 (by decide) ?_
          exact r_mask [false, false, false, false, false] rfl (hJ50 _ h)
        · refine r_aload_n (pc := 147) dX0_refusalOf_147 rfl rfl ?_
          refine fX0_11 (pc := 148) hF dX0_refusalOf_148 h0 (fun b55 => ?_)
          refine r_iload_n (pc := 151) dX0_refusalOf_151 rfl rfl ?_
          refine r_cust (pc := 152) hF dX0_refusalOf_152 b55 h (fun c56 b57 h => ?_)
          refine fX0_110 (pc := 153) dX0_refusalOf_153 b57 h (fun x58 h => ?_)
          refine r_iconst (pc := 156) (v := 3) dX0_refusalOf_156 (by decide) ?_
          refine r_icmp_ge (pc := 157) (tgt := 164) dX0_refusalOf_157 (by decide) h (fun h => ?_) (fun h => ?_)
          · refine r_iconst (pc := 164) (v := 0) dX0_refusalOf_164 (by decide) ?_
            exact r_mask [false, false, false, false, false] rfl (hJ50 _ h)
          · refine r_iconst (pc := 160) (v := 1) dX0_refusalOf_160 (by decide) ?_
            refine r_goto (pc := 161) (tgt := 165) dX0_refusalOf_161 (by decide) ?_
            exact r_mask [false, false, false, false, false] rfl (hJ50 _ h)
    · refine r_if_eq (pc := 119) (tgt := 138) dX0_refusalOf_119 (by decide) h (fun h => ?_) (fun h => ?_)
      · refine r_iconst (pc := 138) (v := 0) dX0_refusalOf_138 (by decide) ?_
        exact r_mask [true, false, true, false, false] rfl (hJ44 _ _ h)
      · refine r_iload (pc := 122) dX0_refusalOf_122 rfl ?_
        refine r_iload_n (pc := 124) dX0_refusalOf_124 rfl rfl ?_
        refine r_sipush (pc := 125) (v := 999) dX0_refusalOf_125 (by decide) ?_
        obtain ⟨m59, x60, q61, h⟩ := gCl_some h
        refine r_callSN (pc := 128) [.int _, .int _, .int _] (tX5_isWithin _ _ _ hF _ _ _ _ _ q61) ⟨rfl, rfl⟩ cd_X5_isWithin wX0_91 nm_X5_isWithin rfl (by rw [hRm]; decide) rfl (Nat.le_of_ble_eq_true rfl) dX0_refusalOf_128 ?_
        refine r_if_eq (pc := 131) (tgt := 138) dX0_refusalOf_131 (by decide) h (fun h => ?_) (fun h => ?_)
        · refine r_iconst (pc := 138) (v := 0) dX0_refusalOf_138 (by decide) ?_
          exact r_mask [true, false, true, false, false] rfl (hJ44 _ _ h)
        · refine r_iconst (pc := 134) (v := 1) dX0_refusalOf_134 (by decide) ?_
          refine r_goto (pc := 135) (tgt := 139) dX0_refusalOf_135 (by decide) ?_
          exact r_mask [true, false, true, false, false] rfl (hJ44 _ _ h)
  refine r_sw h (fun g62 h => ?_) (fun g62 h => ?_)
  · refine r_tabIn (pc := 1) (tgt := 169) (v := 3) dX0_refusalOf_1 g62 (by decide) (by decide) rfl (by decide) ?_
    refine r_aload_n (pc := 169) dX0_refusalOf_169 rfl rfl ?_
    refine r_iload_n (pc := 170) dX0_refusalOf_170 rfl rfl ?_
    obtain ⟨m63, x64, q65, h⟩ := gCl_some h
    refine r_callV (kd := 0) (pc := 171) [.int _] (tX0_hasCustomer _ _ _ hF _ _ _ _ q65 h0) ⟨rfl, rfl⟩ cd_X0_hasCustomer wX0_104 nm_X0_hasCustomer rfl (by rw [hRm]; decide) rfl (Nat.le_of_ble_eq_true rfl) rfl (by decide) h0 dX0_refusalOf_171 ?_
    refine r_jnK h (fun (k68 : Int32 → gM → Option (gM × Nat)) => ∀ (x66 : Int32) (m67 : gM), k68 x66 m67 = some o → AW Y cX0_refusalOf RX0 201 [none, none, none, none, none] [.int x66] m67) (fun x66 m67 h => ?_) (fun k68 hJ69 h => ?_)
    · refine r_iconst (pc := 201) (v := 1) dX0_refusalOf_201 (by decide) ?_
      refine r_iconst (pc := 202) (v := 1) dX0_refusalOf_202 (by decide) ?_
      obtain ⟨m70, x71, q72, h⟩ := gCl_some h
      refine r_callS (pc := 203) [.int _, .int _, .int _] (tX0_firstRefusal _ _ _ hF _ _ _ _ _ q72) ⟨rfl, rfl⟩ cd_X0_firstRefusal wX0_100 nm_X0_firstRefusal rfl (by rw [hRm]; decide) rfl (Nat.le_of_ble_eq_true rfl) dX0_refusalOf_203 ?_
      obtain ⟨b73, h⟩ := gOkE_some h
      exact r_aretH dX0_refusalOf_206 (Or.inl ⟨_, rfl⟩) h he
    · refine r_if_eq (pc := 174) (tgt := 200) dX0_refusalOf_174 (by decide) h (fun h => ?_) (fun h => ?_)
      · refine r_iconst (pc := 200) (v := 0) dX0_refusalOf_200 (by decide) ?_
        exact r_mask [false, false, false, false, false] rfl (hJ69 _ _ h)
      · refine r_iload_n (pc := 177) dX0_refusalOf_177 rfl rfl ?_
        refine r_iconst (pc := 178) (v := 0) dX0_refusalOf_178 (by decide) ?_
        refine r_aload_n (pc := 179) dX0_refusalOf_179 rfl rfl ?_
        refine fX0_11 (pc := 180) hF dX0_refusalOf_180 h0 (fun b74 => ?_)
        refine r_iload_n (pc := 183) dX0_refusalOf_183 rfl rfl ?_
        refine r_cust (pc := 184) hF dX0_refusalOf_184 b74 h (fun c75 b76 h => ?_)
        refine fX0_110 (pc := 185) dX0_refusalOf_185 b76 h (fun x77 h => ?_)
        refine r_iconst (pc := 188) (v := 1) dX0_refusalOf_188 (by decide) ?_
        refine r_isub (pc := 189) dX0_refusalOf_189 ?_
        obtain ⟨m78, x79, q80, h⟩ := gCl_some h
        refine r_callSN (pc := 190) [.int _, .int _, .int _] (tX5_isWithin _ _ _ hF _ _ _ _ _ q80) ⟨rfl, rfl⟩ cd_X5_isWithin wX0_91 nm_X5_isWithin rfl (by rw [hRm]; decide) rfl (Nat.le_of_ble_eq_true rfl) dX0_refusalOf_190 ?_
        refine r_if_eq (pc := 193) (tgt := 200) dX0_refusalOf_193 (by decide) h (fun h => ?_) (fun h => ?_)
        · refine r_iconst (pc := 200) (v := 0) dX0_refusalOf_200 (by decide) ?_
          exact r_mask [false, false, false, false, false] rfl (hJ69 _ _ h)
        · refine r_iconst (pc := 196) (v := 1) dX0_refusalOf_196 (by decide) ?_
          refine r_goto (pc := 197) (tgt := 201) dX0_refusalOf_197 (by decide) ?_
          exact r_mask [false, false, false, false, false] rfl (hJ69 _ _ h)
  refine r_sw h (fun g81 h => ?_) (fun g81 h => ?_)
  · refine r_tabIn (pc := 1) (tgt := 207) (v := 4) dX0_refusalOf_1 g81 (by decide) (by decide) rfl (by decide) ?_
    refine r_iload_n (pc := 207) dX0_refusalOf_207 rfl rfl ?_
    obtain ⟨m82, x83, q84, h⟩ := gCl_some h
    refine r_callSN (pc := 208) [.int _] (tX5_isStreet _ _ _ hF _ _ _ q84) ⟨rfl, rfl⟩ cd_X5_isStreet wX0_95 nm_X5_isStreet rfl (by rw [hRm]; decide) rfl (Nat.le_of_ble_eq_true rfl) dX0_refusalOf_208 ?_
    refine r_jnK h (fun (k87 : Int32 → gM → Option (gM × Nat)) => ∀ (x85 : Int32) (m86 : gM), k87 x85 m86 = some o → AW Y cX0_refusalOf RX0 226 [none, none, none, none, none] [.int x85] m86) (fun x85 m86 h => ?_) (fun k87 hJ88 h => ?_)
    · refine r_iconst (pc := 226) (v := 1) dX0_refusalOf_226 (by decide) ?_
      refine r_iconst (pc := 227) (v := 1) dX0_refusalOf_227 (by decide) ?_
      obtain ⟨m89, x90, q91, h⟩ := gCl_some h
      refine r_callS (pc := 228) [.int _, .int _, .int _] (tX0_firstRefusal _ _ _ hF _ _ _ _ _ q91) ⟨rfl, rfl⟩ cd_X0_firstRefusal wX0_100 nm_X0_firstRefusal rfl (by rw [hRm]; decide) rfl (Nat.le_of_ble_eq_true rfl) dX0_refusalOf_228 ?_
      obtain ⟨b92, h⟩ := gOkE_some h
      exact r_aretH dX0_refusalOf_231 (Or.inl ⟨_, rfl⟩) h he
    · refine r_if_eq (pc := 211) (tgt := 225) dX0_refusalOf_211 (by decide) h (fun h => ?_) (fun h => ?_)
      · refine r_iconst (pc := 225) (v := 0) dX0_refusalOf_225 (by decide) ?_
        exact r_mask [false, false, false, false, false] rfl (hJ88 _ _ h)
      · refine r_iload_n (pc := 214) dX0_refusalOf_214 rfl rfl ?_
        obtain ⟨m93, x94, q95, h⟩ := gCl_some h
        refine r_callSN (pc := 215) [.int _] (tX5_isWeekday _ _ _ hF _ _ _ q95) ⟨rfl, rfl⟩ cd_X5_isWeekday wX0_107 nm_X5_isWeekday rfl (by rw [hRm]; decide) rfl (Nat.le_of_ble_eq_true rfl) dX0_refusalOf_215 ?_
        refine r_if_eq (pc := 218) (tgt := 225) dX0_refusalOf_218 (by decide) h (fun h => ?_) (fun h => ?_)
        · refine r_iconst (pc := 225) (v := 0) dX0_refusalOf_225 (by decide) ?_
          exact r_mask [false, false, false, false, false] rfl (hJ88 _ _ h)
        · refine r_iconst (pc := 221) (v := 1) dX0_refusalOf_221 (by decide) ?_
          refine r_goto (pc := 222) (tgt := 226) dX0_refusalOf_222 (by decide) ?_
          exact r_mask [false, false, false, false, false] rfl (hJ88 _ _ h)
  refine r_sw h (fun g96 h => ?_) (fun g96 h => ?_)
  · refine r_tabIn (pc := 1) (tgt := 232) (v := 5) dX0_refusalOf_1 g96 (by decide) (by decide) rfl (by decide) ?_
    refine r_iload_n (pc := 232) dX0_refusalOf_232 rfl rfl ?_
    obtain ⟨m97, x98, q99, h⟩ := gCl_some h
    refine r_callSN (pc := 233) [.int _] (tX5_isStreet _ _ _ hF _ _ _ q99) ⟨rfl, rfl⟩ cd_X5_isStreet wX0_95 nm_X5_isStreet rfl (by rw [hRm]; decide) rfl (Nat.le_of_ble_eq_true rfl) dX0_refusalOf_233 ?_
    refine r_jnK h (fun (k102 : Int32 → gM → Option (gM × Nat)) => ∀ (x100 : Int32) (m101 : gM), k102 x100 m101 = some o → AW Y cX0_refusalOf RX0 251 [none, none, none, none, none] [.int x100] m101) (fun x100 m101 h => ?_) (fun k102 hJ103 h => ?_)
    · refine r_iconst (pc := 251) (v := 1) dX0_refusalOf_251 (by decide) ?_
      refine r_iconst (pc := 252) (v := 1) dX0_refusalOf_252 (by decide) ?_
      obtain ⟨m104, x105, q106, h⟩ := gCl_some h
      refine r_callS (pc := 253) [.int _, .int _, .int _] (tX0_firstRefusal _ _ _ hF _ _ _ _ _ q106) ⟨rfl, rfl⟩ cd_X0_firstRefusal wX0_100 nm_X0_firstRefusal rfl (by rw [hRm]; decide) rfl (Nat.le_of_ble_eq_true rfl) dX0_refusalOf_253 ?_
      obtain ⟨b107, h⟩ := gOkE_some h
      exact r_aretH dX0_refusalOf_256 (Or.inl ⟨_, rfl⟩) h he
    · refine r_if_eq (pc := 236) (tgt := 250) dX0_refusalOf_236 (by decide) h (fun h => ?_) (fun h => ?_)
      · refine r_iconst (pc := 250) (v := 0) dX0_refusalOf_250 (by decide) ?_
        exact r_mask [false, false, false, false, false] rfl (hJ103 _ _ h)
      · refine r_iload_n (pc := 239) dX0_refusalOf_239 rfl rfl ?_
        obtain ⟨m108, x109, q110, h⟩ := gCl_some h
        refine r_callSN (pc := 240) [.int _] (tX5_isStreet _ _ _ hF _ _ _ q110) ⟨rfl, rfl⟩ cd_X5_isStreet wX0_95 nm_X5_isStreet rfl (by rw [hRm]; decide) rfl (Nat.le_of_ble_eq_true rfl) dX0_refusalOf_240 ?_
        refine r_if_eq (pc := 243) (tgt := 250) dX0_refusalOf_243 (by decide) h (fun h => ?_) (fun h => ?_)
        · refine r_iconst (pc := 250) (v := 0) dX0_refusalOf_250 (by decide) ?_
          exact r_mask [false, false, false, false, false] rfl (hJ103 _ _ h)
        · refine r_iconst (pc := 246) (v := 1) dX0_refusalOf_246 (by decide) ?_
          refine r_goto (pc := 247) (tgt := 251) dX0_refusalOf_247 (by decide) ?_
          exact r_mask [false, false, false, false, false] rfl (hJ103 _ _ h)
  refine r_sw h (fun g111 h => ?_) (fun g111 h => ?_)
  · refine r_tabIn (pc := 1) (tgt := 257) (v := 6) dX0_refusalOf_1 g111 (by decide) (by decide) rfl (by decide) ?_
    refine r_iconst (pc := 257) (v := 1) dX0_refusalOf_257 (by decide) ?_
    refine r_iload_n (pc := 258) dX0_refusalOf_258 rfl rfl ?_
    obtain ⟨m112, x113, q114, h⟩ := gCl_some h
    refine r_callSN (pc := 259) [.int _] (tX5_isSetting _ _ _ hF _ _ _ q114) ⟨rfl, rfl⟩ cd_X5_isSetting wX0_113 nm_X5_isSetting rfl (by rw [hRm]; decide) rfl (Nat.le_of_ble_eq_true rfl) dX0_refusalOf_259 ?_
    refine r_jnK h (fun (k117 : Int32 → gM → Option (gM × Nat)) => ∀ (x115 : Int32) (m116 : gM), k117 x115 m116 = some o → AW Y cX0_refusalOf RX0 287 [none, none, none, none, none] [.int x115, .int 1] m116) (fun x115 m116 h => ?_) (fun k117 hJ118 h => ?_)
    · refine r_iconst (pc := 287) (v := 1) dX0_refusalOf_287 (by decide) ?_
      obtain ⟨m119, x120, q121, h⟩ := gCl_some h
      refine r_callS (pc := 288) [.int _, .int _, .int _] (tX0_firstRefusal _ _ _ hF _ _ _ _ _ q121) ⟨rfl, rfl⟩ cd_X0_firstRefusal wX0_100 nm_X0_firstRefusal rfl (by rw [hRm]; decide) rfl (Nat.le_of_ble_eq_true rfl) dX0_refusalOf_288 ?_
      obtain ⟨b122, h⟩ := gOkE_some h
      exact r_aretH dX0_refusalOf_291 (Or.inl ⟨_, rfl⟩) h he
    · refine r_if_eq (pc := 262) (tgt := 286) dX0_refusalOf_262 (by decide) h (fun h => ?_) (fun h => ?_)
      · refine r_iconst (pc := 286) (v := 0) dX0_refusalOf_286 (by decide) ?_
        exact r_mask [false, false, false, false, false] rfl (hJ118 _ _ h)
      · refine r_iload_n (pc := 265) dX0_refusalOf_265 rfl rfl ?_
        refine sX0_116 (pc := 266) dX0_refusalOf_266 ?_
        refine r_iload_n (pc := 269) dX0_refusalOf_269 rfl rfl ?_
        refine r_gLeast (pc := 270) dX0_refusalOf_270 h (fun x123 h => ?_)
        refine sX0_119 (pc := 271) dX0_refusalOf_271 ?_
        refine r_iload_n (pc := 274) dX0_refusalOf_274 rfl rfl ?_
        refine r_gGreat (pc := 275) dX0_refusalOf_275 h (fun x124 h => ?_)
        obtain ⟨m125, x126, q127, h⟩ := gCl_some h
        refine r_callSN (pc := 276) [.int _, .int _, .int _] (tX5_isWithin _ _ _ hF _ _ _ _ _ q127) ⟨rfl, rfl⟩ cd_X5_isWithin wX0_91 nm_X5_isWithin rfl (by rw [hRm]; decide) rfl (Nat.le_of_ble_eq_true rfl) dX0_refusalOf_276 ?_
        refine r_if_eq (pc := 279) (tgt := 286) dX0_refusalOf_279 (by decide) h (fun h => ?_) (fun h => ?_)
        · refine r_iconst (pc := 286) (v := 0) dX0_refusalOf_286 (by decide) ?_
          exact r_mask [false, false, false, false, false] rfl (hJ118 _ _ h)
        · refine r_iconst (pc := 282) (v := 1) dX0_refusalOf_282 (by decide) ?_
          refine r_goto (pc := 283) (tgt := 287) dX0_refusalOf_283 (by decide) ?_
          exact r_mask [false, false, false, false, false] rfl (hJ118 _ _ h)
  have g1n := gNe g1 (z := 0) (by decide)
  have g16n := gNe g16 (z := 1) (by decide)
  have g34n := gNe g34 (z := 2) (by decide)
  have g62n := gNe g62 (z := 3) (by decide)
  have g81n := gNe g81 (z := 4) (by decide)
  have g96n := gNe g96 (z := 5) (by decide)
  have g111n := gNe g111 (z := 6) (by decide)
  refine r_tabOut (pc := 1) (tgt := 292) dX0_refusalOf_1 (by omega) (by decide) ?_
  refine r_iconst (pc := 292) (v := 1) dX0_refusalOf_292 (by decide) ?_
  refine r_iload_n (pc := 293) dX0_refusalOf_293 rfl rfl ?_
  refine r_iconst (pc := 294) (v := 1) dX0_refusalOf_294 (by decide) ?_
  refine r_bipush (pc := 295) (v := 60) dX0_refusalOf_295 (by decide) ?_
  obtain ⟨m128, x129, q130, h⟩ := gCl_some h
  refine r_callSN (pc := 297) [.int _, .int _, .int _] (tX5_isWithin _ _ _ hF _ _ _ _ _ q130) ⟨rfl, rfl⟩ cd_X5_isWithin wX0_91 nm_X5_isWithin rfl (by rw [hRm]; decide) rfl (Nat.le_of_ble_eq_true rfl) dX0_refusalOf_297 ?_
  refine r_iconst (pc := 300) (v := 1) dX0_refusalOf_300 (by decide) ?_
  obtain ⟨m131, x132, q133, h⟩ := gCl_some h
  refine r_callS (pc := 301) [.int _, .int _, .int _] (tX0_firstRefusal _ _ _ hF _ _ _ _ _ q133) ⟨rfl, rfl⟩ cd_X0_firstRefusal wX0_100 nm_X0_firstRefusal rfl (by rw [hRm]; decide) rfl (Nat.le_of_ble_eq_true rfl) dX0_refusalOf_301 ?_
  obtain ⟨b134, h⟩ := gOkE_some h
  exact r_aretH dX0_refusalOf_304 (Or.inl ⟨_, rfl⟩) h he
set_option maxHeartbeats 4000000 in
set_option maxRecDepth 100000 in
theorem tX1_start (l : Launch) (G : gX) (u : gU) (hF : gFull u) (a0 : Nat) (p1 : Int32) (p2 : Int32) (m : gM) (o : gM) (h : fX1_start a0 p1 p2 m = some o) (h0 : gIn u a0 1 0) : gMet l G u yX1_start (.code yX1_start cX1_start 5 none) rmX1_start [.ref a0, .int p1, .int p2] m o none := by
  refine gMet_of (own := RX1) (k := 2) (by decide) rfl ⟨rfl, rfl⟩ (Nat.le_of_ble_eq_true rfl) [some (.ref a0), some (.int p1), some (.int p2), none, none] rfl (fun Y hG hu hnL hLn hRm he => ?_)
  subst hG hu hLn
  unfold fX1_start at h
  refine r_aload_n (pc := 0) dX1_start_0 rfl rfl ?_
  refine r_iload_n (pc := 1) dX1_start_1 rfl rfl ?_
  refine fX1_21p (pc := 2) dX1_start_2 h0 h (fun m1 h => ?_)
  refine r_aload_n (pc := 5) dX1_start_5 rfl rfl ?_
  refine r_iconst (pc := 6) (v := 0) dX1_start_6 (by decide) ?_
  refine fX1_25p (pc := 7) dX1_start_7 h0 h (fun m2 h => ?_)
  refine r_aload_n (pc := 10) dX1_start_10 rfl rfl ?_
  refine r_iconst (pc := 11) (v := 0) dX1_start_11 (by decide) ?_
  refine fX1_28p (pc := 12) dX1_start_12 h0 h (fun m3 h => ?_)
  refine r_aload_n (pc := 15) dX1_start_15 rfl rfl ?_
  refine r_iconst (pc := 16) (v := 0) dX1_start_16 (by decide) ?_
  refine fX1_31p (pc := 17) dX1_start_17 h0 h (fun m4 h => ?_)
  refine r_aload_n (pc := 20) dX1_start_20 rfl rfl ?_
  refine r_iconst (pc := 21) (v := 0) dX1_start_21 (by decide) ?_
  refine fX1_34p (pc := 22) dX1_start_22 h0 h (fun m5 h => ?_)
  refine r_aload_n (pc := 25) dX1_start_25 rfl rfl ?_
  refine r_iconst (pc := 26) (v := 0) dX1_start_26 (by decide) ?_
  refine fX1_37p (pc := 27) dX1_start_27 h0 h (fun m6 h => ?_)
  refine r_aload_n (pc := 30) dX1_start_30 rfl rfl ?_
  refine r_iconst (pc := 31) (v := 0) dX1_start_31 (by decide) ?_
  refine fX1_40p (pc := 32) dX1_start_32 h0 h (fun m7 h => ?_)
  refine r_aload_n (pc := 35) dX1_start_35 rfl rfl ?_
  refine r_iconst (pc := 36) (v := 0) dX1_start_36 (by decide) ?_
  refine fX1_43p (pc := 37) dX1_start_37 h0 h (fun m8 h => ?_)
  refine r_iload_n (pc := 40) dX1_start_40 rfl rfl ?_
  refine r_istore_n (pc := 41) dX1_start_41 rfl (by rw [hnL]; decide) rfl ?_
  refine r_bipush (pc := 42) (v := 6) dX1_start_42 (by decide) ?_
  refine r_istore (pc := 44) dX1_start_44 (by rw [hnL]; decide) rfl ?_
  have L15 : ∀ (n13 : Nat) (v16 : Int32) (v17 : Int32) (m18 : gM), fX1_start_L46 a0 n13 v16 v17 m18 = some o → AW Y cX1_start RX1 46 [some (.ref a0), none, none, some (.int v16), some (.int v17)] [] m18 := by
    intro n13
    induction n13 with
    | zero =>
      intro v16 v17 m18 h
      exact absurd h (by simp [fX1_start_L46])
    | succ n13 ih14 =>
      intro v16 v17 m18 h
      rw [fX1_start_L46] at h
      refine r_iload (pc := 46) dX1_start_46 rfl ?_
      refine r_if_lt (pc := 48) (tgt := 73) dX1_start_48 (by decide) h (fun h => ?_) (fun h => ?_)
      · exact r_vretH dX1_start_73 h he
      · refine r_aload_n (pc := 51) dX1_start_51 rfl rfl ?_
        refine fX1_9 (pc := 52) hF dX1_start_52 h0 (fun b19 => ?_)
        refine r_iload (pc := 55) dX1_start_55 rfl ?_
        refine r_iload_n (pc := 57) dX1_start_57 rfl rfl ?_
        refine r_bipush (pc := 58) (v := 10) dX1_start_58 (by decide) ?_
        refine r_iremc (pc := 60) dX1_start_60 (by decide) ?_
        refine r_iast (pc := 61) dX1_start_61 b19 h (fun m20 h => ?_)
        refine r_iload_n (pc := 62) dX1_start_62 rfl rfl ?_
        refine r_bipush (pc := 63) (v := 10) dX1_start_63 (by decide) ?_
        refine r_idivc (pc := 65) dX1_start_65 (by decide) ?_
        refine r_istore_nL (pc := 66) dX1_start_66 rfl (by rw [hnL]; decide) h (fun x21 h => ?_)
        refine r_iinc (pc := 67) (d := (-1)) dX1_start_67 rfl (by decide) (by rw [hnL]; decide) h (fun x22 h => ?_)
        refine r_goto (pc := 70) (tgt := 46) dX1_start_70 (by decide) ?_
        exact r_mask [true, false, false, true, true] rfl (ih14 _ _ _ h)
  exact r_mask [true, false, false, true, true] rfl (L15 _ _ _ _ h)
set_option maxHeartbeats 4000000 in
set_option maxRecDepth 100000 in
theorem tX0_addCustomer (l : Launch) (G : gX) (u : gU) (hF : gFull u) (a0 : Nat) (p1 : Int32) (p2 : Int32) (m : gM) (o : gM × Int32) (h : fX0_addCustomer a0 p1 p2 m = some o) (h0 : gIn u a0 0 0) : gMet l G u yX0_addCustomer (.code yX0_addCustomer cX0_addCustomer 3 (some .int)) rmX0_addCustomer [.ref a0, .int p1, .int p2] m o.1 (some (.int o.2)) := by
  refine gMet_of (own := RX0) (k := 0) (by decide) rfl ⟨rfl, rfl⟩ (Nat.le_of_ble_eq_true rfl) [some (.ref a0), some (.int p1), some (.int p2)] rfl (fun Y hG hu hnL hLn hRm he => ?_)
  subst hG hu hLn
  unfold fX0_addCustomer at h
  refine r_aload_n (pc := 0) dX0_addCustomer_0 rfl rfl ?_
  refine fX0_11 (pc := 1) hF dX0_addCustomer_1 h0 (fun b1 => ?_)
  refine r_aload_n (pc := 4) dX0_addCustomer_4 rfl rfl ?_
  refine fX0_35 (pc := 5) dX0_addCustomer_5 h0 h (fun x2 h => ?_)
  refine r_cust (pc := 8) hF dX0_addCustomer_8 b1 h (fun c3 b4 h => ?_)
  refine r_iload_n (pc := 9) dX0_addCustomer_9 rfl rfl ?_
  refine r_iload_n (pc := 10) dX0_addCustomer_10 rfl rfl ?_
  obtain ⟨m5, q7, h⟩ := gCv_some h
  refine r_callVN (kd := 1) (pc := 11) [.int _, .int _] (tX1_start _ _ _ hF _ _ _ _ _ q7 b4) ⟨rfl, rfl⟩ cd_X1_start wX0_167 nm_X1_start rfl (by rw [hRm]; decide) rfl (Nat.le_of_ble_eq_true rfl) rfl (by decide) b4 dX0_addCustomer_11 ?_
  refine r_aload_n (pc := 14) dX0_addCustomer_14 rfl rfl ?_
  refine r_dup (pc := 15) dX0_addCustomer_15 rfl ?_
  refine fX0_35 (pc := 16) dX0_addCustomer_16 h0 h (fun x8 h => ?_)
  refine r_iconst (pc := 19) (v := 1) dX0_addCustomer_19 (by decide) ?_
  refine r_iadd (pc := 20) dX0_addCustomer_20 ?_
  refine fX0_35p (pc := 21) dX0_addCustomer_21 h0 h (fun m9 h => ?_)
  refine r_aload_n (pc := 24) dX0_addCustomer_24 rfl rfl ?_
  refine fX0_35 (pc := 25) dX0_addCustomer_25 h0 h (fun x10 h => ?_)
  refine r_iconst (pc := 28) (v := 1) dX0_addCustomer_28 (by decide) ?_
  refine r_isub (pc := 29) dX0_addCustomer_29 ?_
  exact r_iretH dX0_addCustomer_30 h he
set_option maxHeartbeats 4000000 in
set_option maxRecDepth 100000 in
theorem tX1_putLoaves (l : Launch) (G : gX) (u : gU) (hF : gFull u) (a0 : Nat) (p1 : Int32) (p2 : Int32) (m : gM) (o : gM × Int32) (h : fX1_putLoaves a0 p1 p2 m = some o) (h0 : gIn u a0 1 0) : gMet l G u yX1_putLoaves (.code yX1_putLoaves cX1_putLoaves 4 (some .int)) rmX1_putLoaves [.ref a0, .int p1, .int p2] m o.1 (some (.int o.2)) := by
  refine gMet_of (own := RX1) (k := 1) (by decide) rfl ⟨rfl, rfl⟩ (Nat.le_of_ble_eq_true rfl) [some (.ref a0), some (.int p1), some (.int p2), none] rfl (fun Y hG hu hnL hLn hRm he => ?_)
  subst hG hu hLn
  unfold fX1_putLoaves at h
  refine r_aload_n (pc := 0) dX1_putLoaves_0 rfl rfl ?_
  refine fX1_9 (pc := 1) hF dX1_putLoaves_1 h0 (fun b1 => ?_)
  refine r_iload_n (pc := 4) dX1_putLoaves_4 rfl rfl ?_
  refine r_iald (pc := 5) dX1_putLoaves_5 b1 h (fun x2 h => ?_)
  refine r_istore_n (pc := 6) dX1_putLoaves_6 rfl (by rw [hnL]; decide) rfl ?_
  refine r_aload_n (pc := 7) dX1_putLoaves_7 rfl rfl ?_
  refine fX1_9 (pc := 8) hF dX1_putLoaves_8 h0 (fun b3 => ?_)
  refine r_iload_n (pc := 11) dX1_putLoaves_11 rfl rfl ?_
  refine r_iload_n (pc := 12) dX1_putLoaves_12 rfl rfl ?_
  refine r_iast (pc := 13) dX1_putLoaves_13 b3 h (fun m4 h => ?_)
  refine r_iload_n (pc := 14) dX1_putLoaves_14 rfl rfl ?_
  exact r_iretH dX1_putLoaves_15 h he
set_option maxHeartbeats 4000000 in
set_option maxRecDepth 100000 in
theorem tX1_addHoliday (l : Launch) (G : gX) (u : gU) (hF : gFull u) (a0 : Nat) (p1 : Int32) (p2 : Int32) (m : gM) (o : gM × Int32) (h : fX1_addHoliday a0 p1 p2 m = some o) (h0 : gIn u a0 1 0) : gMet l G u yX1_addHoliday (.code yX1_addHoliday cX1_addHoliday 3 (some .int)) rmX1_addHoliday [.ref a0, .int p1, .int p2] m o.1 (some (.int o.2)) := by
  refine gMet_of (own := RX1) (k := 0) (by decide) rfl ⟨rfl, rfl⟩ (Nat.le_of_ble_eq_true rfl) [some (.ref a0), some (.int p1), some (.int p2)] rfl (fun Y hG hu hnL hLn hRm he => ?_)
  subst hG hu hLn
  unfold fX1_addHoliday at h
  refine r_aload_n (pc := 0) dX1_addHoliday_0 rfl rfl ?_
  refine fX1_15 (pc := 1) hF dX1_addHoliday_1 h0 (fun b1 => ?_)
  refine r_aload_n (pc := 4) dX1_addHoliday_4 rfl rfl ?_
  refine fX1_43 (pc := 5) dX1_addHoliday_5 h0 h (fun x2 h => ?_)
  refine r_iload_n (pc := 8) dX1_addHoliday_8 rfl rfl ?_
  refine r_iast (pc := 9) dX1_addHoliday_9 b1 h (fun m3 h => ?_)
  refine r_aload_n (pc := 10) dX1_addHoliday_10 rfl rfl ?_
  refine fX1_18 (pc := 11) hF dX1_addHoliday_11 h0 (fun b4 => ?_)
  refine r_aload_n (pc := 14) dX1_addHoliday_14 rfl rfl ?_
  refine fX1_43 (pc := 15) dX1_addHoliday_15 h0 h (fun x5 h => ?_)
  refine r_iload_n (pc := 18) dX1_addHoliday_18 rfl rfl ?_
  refine r_iast (pc := 19) dX1_addHoliday_19 b4 h (fun m6 h => ?_)
  refine r_aload_n (pc := 20) dX1_addHoliday_20 rfl rfl ?_
  refine r_dup (pc := 21) dX1_addHoliday_21 rfl ?_
  refine fX1_43 (pc := 22) dX1_addHoliday_22 h0 h (fun x7 h => ?_)
  refine r_iconst (pc := 25) (v := 1) dX1_addHoliday_25 (by decide) ?_
  refine r_iadd (pc := 26) dX1_addHoliday_26 ?_
  refine fX1_43p (pc := 27) dX1_addHoliday_27 h0 h (fun m8 h => ?_)
  refine r_aload_n (pc := 30) dX1_addHoliday_30 rfl rfl ?_
  refine fX1_43 (pc := 31) dX1_addHoliday_31 h0 h (fun x9 h => ?_)
  exact r_iretH dX1_addHoliday_34 h he
set_option maxHeartbeats 4000000 in
set_option maxRecDepth 100000 in
theorem tX1_dropHoliday (l : Launch) (G : gX) (u : gU) (hF : gFull u) (a0 : Nat) (p1 : Int32) (m : gM) (o : gM × Int32) (h : fX1_dropHoliday a0 p1 m = some o) (h0 : gIn u a0 1 0) : gMet l G u yX1_dropHoliday (.code yX1_dropHoliday cX1_dropHoliday 3 (some .int)) rmX1_dropHoliday [.ref a0, .int p1] m o.1 (some (.int o.2)) := by
  refine gMet_of (own := RX1) (k := 1) (by decide) rfl ⟨rfl, rfl⟩ (Nat.le_of_ble_eq_true rfl) [some (.ref a0), some (.int p1), none] rfl (fun Y hG hu hnL hLn hRm he => ?_)
  subst hG hu hLn
  unfold fX1_dropHoliday at h
  refine r_iload_n (pc := 0) dX1_dropHoliday_0 rfl rfl ?_
  refine r_istore_n (pc := 1) dX1_dropHoliday_1 rfl (by rw [hnL]; decide) rfl ?_
  have L16 : ∀ (n14 : Nat) (v17 : Int32) (m18 : gM), fX1_dropHoliday_L2 a0 n14 v17 m18 = some o → AW Y cX1_dropHoliday RX1 2 [some (.ref a0), none, some (.int v17)] [] m18 := by
    intro n14
    induction n14 with
    | zero =>
      intro v17 m18 h
      exact absurd h (by simp [fX1_dropHoliday_L2])
    | succ n14 ih15 =>
      intro v17 m18 h
      rw [fX1_dropHoliday_L2] at h
      refine r_iload_n (pc := 2) dX1_dropHoliday_2 rfl rfl ?_
      refine r_iconst (pc := 3) (v := 1) dX1_dropHoliday_3 (by decide) ?_
      refine r_iadd (pc := 4) dX1_dropHoliday_4 ?_
      refine r_aload_n (pc := 5) dX1_dropHoliday_5 rfl rfl ?_
      refine fX1_43 (pc := 6) dX1_dropHoliday_6 h0 h (fun x19 h => ?_)
      refine r_icmp_ge (pc := 9) (tgt := 46) dX1_dropHoliday_9 (by decide) h (fun h => ?_) (fun h => ?_)
      · refine r_aload_n (pc := 46) dX1_dropHoliday_46 rfl rfl ?_
        refine r_dup (pc := 47) dX1_dropHoliday_47 rfl ?_
        refine fX1_43 (pc := 48) dX1_dropHoliday_48 h0 h (fun x20 h => ?_)
        refine r_iconst (pc := 51) (v := 1) dX1_dropHoliday_51 (by decide) ?_
        refine r_isub (pc := 52) dX1_dropHoliday_52 ?_
        refine fX1_43p (pc := 53) dX1_dropHoliday_53 h0 h (fun m21 h => ?_)
        refine r_aload_n (pc := 56) dX1_dropHoliday_56 rfl rfl ?_
        refine fX1_43 (pc := 57) dX1_dropHoliday_57 h0 h (fun x22 h => ?_)
        exact r_iretH dX1_dropHoliday_60 h he
      · refine r_aload_n (pc := 12) dX1_dropHoliday_12 rfl rfl ?_
        refine fX1_15 (pc := 13) hF dX1_dropHoliday_13 h0 (fun b23 => ?_)
        refine r_iload_n (pc := 16) dX1_dropHoliday_16 rfl rfl ?_
        refine r_aload_n (pc := 17) dX1_dropHoliday_17 rfl rfl ?_
        refine fX1_15 (pc := 18) hF dX1_dropHoliday_18 h0 (fun b24 => ?_)
        refine r_iload_n (pc := 21) dX1_dropHoliday_21 rfl rfl ?_
        refine r_iconst (pc := 22) (v := 1) dX1_dropHoliday_22 (by decide) ?_
        refine r_iadd (pc := 23) dX1_dropHoliday_23 ?_
        refine r_iald (pc := 24) dX1_dropHoliday_24 b24 h (fun x25 h => ?_)
        refine r_iast (pc := 25) dX1_dropHoliday_25 b23 h (fun m26 h => ?_)
        refine r_aload_n (pc := 26) dX1_dropHoliday_26 rfl rfl ?_
        refine fX1_18 (pc := 27) hF dX1_dropHoliday_27 h0 (fun b27 => ?_)
        refine r_iload_n (pc := 30) dX1_dropHoliday_30 rfl rfl ?_
        refine r_aload_n (pc := 31) dX1_dropHoliday_31 rfl rfl ?_
        refine fX1_18 (pc := 32) hF dX1_dropHoliday_32 h0 (fun b28 => ?_)
        refine r_iload_n (pc := 35) dX1_dropHoliday_35 rfl rfl ?_
        refine r_iconst (pc := 36) (v := 1) dX1_dropHoliday_36 (by decide) ?_
        refine r_iadd (pc := 37) dX1_dropHoliday_37 ?_
        refine r_iald (pc := 38) dX1_dropHoliday_38 b28 h (fun x29 h => ?_)
        refine r_iast (pc := 39) dX1_dropHoliday_39 b27 h (fun m30 h => ?_)
        refine r_iinc (pc := 40) (d := 1) dX1_dropHoliday_40 rfl (by decide) (by rw [hnL]; decide) h (fun x31 h => ?_)
        refine r_goto (pc := 43) (tgt := 2) dX1_dropHoliday_43 (by decide) ?_
        exact r_mask [true, false, true] rfl (ih15 _ _ h)
  exact r_mask [true, false, true] rfl (L16 _ _ _ h)
set_option maxHeartbeats 4000000 in
set_option maxRecDepth 100000 in
theorem tX0_closeStreet (l : Launch) (G : gX) (u : gU) (hF : gFull u) (a0 : Nat) (p1 : Int32) (p2 : Int32) (p3 : Int32) (m : gM) (o : gM × Int32) (h : fX0_closeStreet a0 p1 p2 p3 m = some o) (h0 : gIn u a0 0 0) : gMet l G u yX0_closeStreet (.code yX0_closeStreet cX0_closeStreet 6 (some .int)) rmX0_closeStreet [.ref a0, .int p1, .int p2, .int p3] m o.1 (some (.int o.2)) := by
  refine gMet_of (own := RX0) (k := 2) (by decide) rfl ⟨rfl, rfl⟩ (Nat.le_of_ble_eq_true rfl) [some (.ref a0), some (.int p1), some (.int p2), some (.int p3), none, none] rfl (fun Y hG hu hnL hLn hRm he => ?_)
  subst hG hu hLn
  unfold fX0_closeStreet at h
  refine r_aload_n (pc := 0) dX0_closeStreet_0 rfl rfl ?_
  refine fX0_17 (pc := 1) hF dX0_closeStreet_1 h0 (fun b1 => ?_)
  refine r_iload_n (pc := 4) dX0_closeStreet_4 rfl rfl ?_
  refine r_bipush (pc := 5) (v := 7) dX0_closeStreet_5 (by decide) ?_
  refine r_imul (pc := 7) dX0_closeStreet_7 ?_
  refine r_iload_n (pc := 8) dX0_closeStreet_8 rfl rfl ?_
  refine r_iadd (pc := 9) dX0_closeStreet_9 ?_
  refine r_iload_n (pc := 10) dX0_closeStreet_10 rfl rfl ?_
  refine r_zast (pc := 11) dX0_closeStreet_11 b1 h (fun m2 h => ?_)
  refine r_iconst (pc := 12) (v := 0) dX0_closeStreet_12 (by decide) ?_
  refine r_istore (pc := 13) dX0_closeStreet_13 (by rw [hnL]; decide) rfl ?_
  refine r_iconst (pc := 15) (v := 0) dX0_closeStreet_15 (by decide) ?_
  refine r_istore (pc := 16) dX0_closeStreet_16 (by rw [hnL]; decide) rfl ?_
  have L13 : ∀ (n11 : Nat) (v14 : Int32) (v15 : Int32) (m16 : gM), fX0_closeStreet_L18 a0 p1 n11 v14 v15 m16 = some o → AW Y cX0_closeStreet RX0 18 [some (.ref a0), some (.int p1), none, none, some (.int v14), some (.int v15)] [] m16 := by
    intro n11
    induction n11 with
    | zero =>
      intro v14 v15 m16 h
      exact absurd h (by simp [fX0_closeStreet_L18])
    | succ n11 ih12 =>
      intro v14 v15 m16 h
      rw [fX0_closeStreet_L18] at h
      refine r_iload (pc := 18) dX0_closeStreet_18 rfl ?_
      refine r_bipush (pc := 20) (v := 7) dX0_closeStreet_20 (by decide) ?_
      refine r_icmp_ge (pc := 22) (tgt := 44) dX0_closeStreet_22 (by decide) h (fun h => ?_) (fun h => ?_)
      · refine r_iload (pc := 44) dX0_closeStreet_44 rfl ?_
        exact r_iretH dX0_closeStreet_46 h he
      · refine r_aload_n (pc := 25) dX0_closeStreet_25 rfl rfl ?_
        refine r_iload_n (pc := 26) dX0_closeStreet_26 rfl rfl ?_
        refine r_iload (pc := 27) dX0_closeStreet_27 rfl ?_
        obtain ⟨m17, x18, q19, h⟩ := gCl_some h
        refine r_callV (kd := 0) (pc := 29) [.int _, .int _] (tX0_isShut _ _ _ hF _ _ _ _ _ q19 h0) ⟨rfl, rfl⟩ cd_X0_isShut wX0_87 nm_X0_isShut rfl (by rw [hRm]; decide) rfl (Nat.le_of_ble_eq_true rfl) rfl (by decide) h0 dX0_closeStreet_29 ?_
        refine r_jnK h (fun (k21 : Int32 → Option (gM × Int32)) => ∀ (x20 : Int32), k21 x20 = some o → AW Y cX0_closeStreet RX0 38 [some (.ref a0), some (.int p1), none, none, some (.int x20), some (.int v15)] [] m17) (fun x20 h => ?_) (fun k21 hJ22 h => ?_)
        · refine r_iinc (pc := 38) (d := 1) dX0_closeStreet_38 rfl (by decide) (by rw [hnL]; decide) h (fun x23 h => ?_)
          refine r_goto (pc := 41) (tgt := 18) dX0_closeStreet_41 (by decide) ?_
          exact r_mask [true, true, false, false, true, true] rfl (ih12 _ _ _ h)
        · refine r_if_eq (pc := 32) (tgt := 38) dX0_closeStreet_32 (by decide) h (fun h => ?_) (fun h => ?_)
          · exact r_mask [true, true, false, false, true, true] rfl (hJ22 _ h)
          · refine r_iinc (pc := 35) (d := 1) dX0_closeStreet_35 rfl (by decide) (by rw [hnL]; decide) h (fun x24 h => ?_)
            exact r_mask [true, true, false, false, true, true] rfl (hJ22 _ h)
  exact r_mask [true, true, false, false, true, true] rfl (L13 _ _ _ _ h)
set_option maxHeartbeats 4000000 in
set_option maxRecDepth 100000 in
theorem tX0_placeOf (l : Launch) (G : gX) (u : gU) (hF : gFull u) (a0 : Nat) (p1 : Int32) (m : gM) (o : gM × Int32) (h : fX0_placeOf a0 p1 m = some o) (h0 : gIn u a0 0 0) : gMet l G u yX0_placeOf (.code yX0_placeOf cX0_placeOf 4 (some .int)) rmX0_placeOf [.ref a0, .int p1] m o.1 (some (.int o.2)) := by
  refine gMet_of (own := RX0) (k := 2) (by decide) rfl ⟨rfl, rfl⟩ (Nat.le_of_ble_eq_true rfl) [some (.ref a0), some (.int p1), none, none] rfl (fun Y hG hu hnL hLn hRm he => ?_)
  subst hG hu hLn
  unfold fX0_placeOf at h
  refine r_iconst (pc := 0) (v := 0) dX0_placeOf_0 (by decide) ?_
  refine r_istore_n (pc := 1) dX0_placeOf_1 rfl (by rw [hnL]; decide) rfl ?_
  refine r_iconst (pc := 2) (v := 0) dX0_placeOf_2 (by decide) ?_
  refine r_istore_n (pc := 3) dX0_placeOf_3 rfl (by rw [hnL]; decide) rfl ?_
  have L9 : ∀ (n7 : Nat) (v10 : Int32) (v11 : Int32) (m12 : gM), fX0_placeOf_L4 a0 p1 n7 v10 v11 m12 = some o → AW Y cX0_placeOf RX0 4 [some (.ref a0), some (.int p1), some (.int v10), some (.int v11)] [] m12 := by
    intro n7
    induction n7 with
    | zero =>
      intro v10 v11 m12 h
      exact absurd h (by simp [fX0_placeOf_L4])
    | succ n7 ih8 =>
      intro v10 v11 m12 h
      rw [fX0_placeOf_L4] at h
      refine r_iload_n (pc := 4) dX0_placeOf_4 rfl rfl ?_
      refine r_iconst (pc := 5) (v := 4) dX0_placeOf_5 (by decide) ?_
      refine r_icmp_ge (pc := 6) (tgt := 27) dX0_placeOf_6 (by decide) h (fun h => ?_) (fun h => ?_)
      · refine r_iload_n (pc := 27) dX0_placeOf_27 rfl rfl ?_
        exact r_iretH dX0_placeOf_28 h he
      · refine r_aload_n (pc := 9) dX0_placeOf_9 rfl rfl ?_
        refine fX0_21 (pc := 10) hF dX0_placeOf_10 h0 (fun b13 => ?_)
        refine r_iload_n (pc := 13) dX0_placeOf_13 rfl rfl ?_
        refine r_iald (pc := 14) dX0_placeOf_14 b13 h (fun x14 h => ?_)
        refine r_iload_n (pc := 15) dX0_placeOf_15 rfl rfl ?_
        refine r_jn1 h (fun x15 => AW Y cX0_placeOf RX0 21 [some (.ref a0), some (.int p1), some (.int x15), some (.int v11)] [] m12) (fun x15 h => ?_) (fun hJ16 => ?_)
        · refine r_iinc (pc := 21) (d := 1) dX0_placeOf_21 rfl (by decide) (by rw [hnL]; decide) h (fun x18 h => ?_)
          refine r_goto (pc := 24) (tgt := 4) dX0_placeOf_24 (by decide) ?_
          exact r_mask [true, true, true, true] rfl (ih8 _ _ _ h)
        · refine r_icmpC_ne (pc := 16) (tgt := 21) dX0_placeOf_16 (by decide) (fun g17 => ?_) (fun g17 => ?_)
          · exact r_mask [true, true, true, true] rfl (hJ16 _ (by rw [if_neg g17]))
          · refine r_iload_n (pc := 19) dX0_placeOf_19 rfl rfl ?_
            refine r_istore_n (pc := 20) dX0_placeOf_20 rfl (by rw [hnL]; decide) rfl ?_
            exact r_mask [true, true, true, true] rfl (hJ16 _ (by rw [if_pos g17]))
  exact r_mask [true, true, true, true] rfl (L9 _ _ _ _ h)
set_option maxHeartbeats 4000000 in
set_option maxRecDepth 100000 in
theorem tX0_swapStreets (l : Launch) (G : gX) (u : gU) (hF : gFull u) (a0 : Nat) (p1 : Int32) (p2 : Int32) (m : gM) (o : gM × Int32) (h : fX0_swapStreets a0 p1 p2 m = some o) (h0 : gIn u a0 0 0) : gMet l G u yX0_swapStreets (.code yX0_swapStreets cX0_swapStreets 5 (some .int)) rmX0_swapStreets [.ref a0, .int p1, .int p2] m o.1 (some (.int o.2)) := by
  refine gMet_of (own := RX0) (k := 2) (by decide) rfl ⟨rfl, rfl⟩ (Nat.le_of_ble_eq_true rfl) [some (.ref a0), some (.int p1), some (.int p2), none, none] rfl (fun Y hG hu hnL hLn hRm he => ?_)
  subst hG hu hLn
  unfold fX0_swapStreets at h
  refine r_aload_n (pc := 0) dX0_swapStreets_0 rfl rfl ?_
  refine r_iload_n (pc := 1) dX0_swapStreets_1 rfl rfl ?_
  obtain ⟨m1, x2, q3, h⟩ := gCl_some h
  refine r_callV (kd := 0) (pc := 2) [.int _] (tX0_placeOf _ _ _ hF _ _ _ _ q3 h0) ⟨rfl, rfl⟩ cd_X0_placeOf wX0_171 nm_X0_placeOf rfl (by rw [hRm]; decide) rfl (Nat.le_of_ble_eq_true rfl) rfl (by decide) h0 dX0_swapStreets_2 ?_
  refine r_istore_n (pc := 5) dX0_swapStreets_5 rfl (by rw [hnL]; decide) rfl ?_
  refine r_aload_n (pc := 6) dX0_swapStreets_6 rfl rfl ?_
  refine r_iload_n (pc := 7) dX0_swapStreets_7 rfl rfl ?_
  obtain ⟨m4, x5, q6, h⟩ := gCl_some h
  refine r_callV (kd := 0) (pc := 8) [.int _] (tX0_placeOf _ _ _ hF _ _ _ _ q6 h0) ⟨rfl, rfl⟩ cd_X0_placeOf wX0_171 nm_X0_placeOf rfl (by rw [hRm]; decide) rfl (Nat.le_of_ble_eq_true rfl) rfl (by decide) h0 dX0_swapStreets_8 ?_
  refine r_istore (pc := 11) dX0_swapStreets_11 (by rw [hnL]; decide) rfl ?_
  refine r_aload_n (pc := 13) dX0_swapStreets_13 rfl rfl ?_
  refine fX0_21 (pc := 14) hF dX0_swapStreets_14 h0 (fun b7 => ?_)
  refine r_iload_n (pc := 17) dX0_swapStreets_17 rfl rfl ?_
  refine r_iload_n (pc := 18) dX0_swapStreets_18 rfl rfl ?_
  refine r_iast (pc := 19) dX0_swapStreets_19 b7 h (fun m8 h => ?_)
  refine r_aload_n (pc := 20) dX0_swapStreets_20 rfl rfl ?_
  refine fX0_21 (pc := 21) hF dX0_swapStreets_21 h0 (fun b9 => ?_)
  refine r_iload (pc := 24) dX0_swapStreets_24 rfl ?_
  refine r_iload_n (pc := 26) dX0_swapStreets_26 rfl rfl ?_
  refine r_iast (pc := 27) dX0_swapStreets_27 b9 h (fun m10 h => ?_)
  refine r_iload (pc := 28) dX0_swapStreets_28 rfl ?_
  exact r_iretH dX0_swapStreets_30 h he
set_option maxHeartbeats 4000000 in
set_option maxRecDepth 100000 in
theorem tX0_changeSetting (l : Launch) (G : gX) (u : gU) (hF : gFull u) (a0 : Nat) (p1 : Int32) (p2 : Int32) (m : gM) (o : gM × Int32) (h : fX0_changeSetting a0 p1 p2 m = some o) (h0 : gIn u a0 0 0) : gMet l G u yX0_changeSetting (.code yX0_changeSetting cX0_changeSetting 4 (some .int)) rmX0_changeSetting [.ref a0, .int p1, .int p2] m o.1 (some (.int o.2)) := by
  refine gMet_of (own := RX0) (k := 1) (by decide) rfl ⟨rfl, rfl⟩ (Nat.le_of_ble_eq_true rfl) [some (.ref a0), some (.int p1), some (.int p2), none] rfl (fun Y hG hu hnL hLn hRm he => ?_)
  subst hG hu hLn
  unfold fX0_changeSetting at h
  refine r_aload_n (pc := 0) dX0_changeSetting_0 rfl rfl ?_
  refine fX0_25 (pc := 1) hF dX0_changeSetting_1 h0 (fun b1 => ?_)
  refine r_iload_n (pc := 4) dX0_changeSetting_4 rfl rfl ?_
  refine r_iald (pc := 5) dX0_changeSetting_5 b1 h (fun x2 h => ?_)
  refine r_istore_n (pc := 6) dX0_changeSetting_6 rfl (by rw [hnL]; decide) rfl ?_
  refine r_aload_n (pc := 7) dX0_changeSetting_7 rfl rfl ?_
  refine fX0_25 (pc := 8) hF dX0_changeSetting_8 h0 (fun b3 => ?_)
  refine r_iload_n (pc := 11) dX0_changeSetting_11 rfl rfl ?_
  refine r_iload_n (pc := 12) dX0_changeSetting_12 rfl rfl ?_
  refine r_iast (pc := 13) dX0_changeSetting_13 b3 h (fun m4 h => ?_)
  refine r_iload_n (pc := 14) dX0_changeSetting_14 rfl rfl ?_
  exact r_iretH dX0_changeSetting_15 h he
set_option maxHeartbeats 4000000 in
set_option maxRecDepth 100000 in
theorem tX0_planVisits (l : Launch) (G : gX) (u : gU) (hF : gFull u) (a0 : Nat) (m : gM) (o : gM) (h : fX0_planVisits a0 m = some o) (h0 : gIn u a0 0 0) : gMet l G u yX0_planVisits (.code yX0_planVisits cX0_planVisits 4 none) rmX0_planVisits [.ref a0] m o none := by
  refine gMet_of (own := RX0) (k := 3) (by decide) rfl ⟨rfl, rfl⟩ (Nat.le_of_ble_eq_true rfl) [some (.ref a0), none, none, none] rfl (fun Y hG hu hnL hLn hRm he => ?_)
  subst hG hu hLn
  unfold fX0_planVisits at h
  refine r_iconst (pc := 0) (v := 0) dX0_planVisits_0 (by decide) ?_
  refine r_istore_n (pc := 1) dX0_planVisits_1 rfl (by rw [hnL]; decide) rfl ?_
  refine r_iconst (pc := 2) (v := 0) dX0_planVisits_2 (by decide) ?_
  refine r_istore_n (pc := 3) dX0_planVisits_3 rfl (by rw [hnL]; decide) rfl ?_
  have L41 : ∀ (n39 : Nat) (v42 : Int32) (v43 : Int32) (m44 : gM), fX0_planVisits_L4 a0 n39 v42 v43 m44 = some o → AW Y cX0_planVisits RX0 4 [some (.ref a0), some (.int v42), some (.int v43), none] [] m44 := by
    intro n39
    induction n39 with
    | zero =>
      intro v42 v43 m44 h
      exact absurd h (by simp [fX0_planVisits_L4])
    | succ n39 ih40 =>
      intro v42 v43 m44 h
      rw [fX0_planVisits_L4] at h
      refine r_iload_n (pc := 4) dX0_planVisits_4 rfl rfl ?_
      refine r_iconst (pc := 5) (v := 4) dX0_planVisits_5 (by decide) ?_
      refine r_icmp_ge (pc := 6) (tgt := 59) dX0_planVisits_6 (by decide) h (fun h => ?_) (fun h => ?_)
      · exact r_vretH dX0_planVisits_59 h he
      · refine r_iconst (pc := 9) (v := 0) dX0_planVisits_9 (by decide) ?_
        refine r_istore_n (pc := 10) dX0_planVisits_10 rfl (by rw [hnL]; decide) rfl ?_
        have L47 : ∀ (n45 : Nat) (v48 : Int32) (v49 : Int32) (m50 : gM), fX0_planVisits_L11 a0 v43 (fX0_planVisits_L4 a0 n39) n45 v48 v49 m50 = some o → AW Y cX0_planVisits RX0 11 [some (.ref a0), some (.int v48), some (.int v43), some (.int v49)] [] m50 := by
          intro n45
          induction n45 with
          | zero =>
            intro v48 v49 m50 h
            exact absurd h (by simp [fX0_planVisits_L11])
          | succ n45 ih46 =>
            intro v48 v49 m50 h
            rw [fX0_planVisits_L11] at h
            refine r_iload_n (pc := 11) dX0_planVisits_11 rfl rfl ?_
            refine r_aload_n (pc := 12) dX0_planVisits_12 rfl rfl ?_
            refine fX0_35 (pc := 13) dX0_planVisits_13 h0 h (fun x51 h => ?_)
            refine r_icmp_ge (pc := 16) (tgt := 53) dX0_planVisits_16 (by decide) h (fun h => ?_) (fun h => ?_)
            · refine r_iinc (pc := 53) (d := 1) dX0_planVisits_53 rfl (by decide) (by rw [hnL]; decide) h (fun x52 h => ?_)
              refine r_goto (pc := 56) (tgt := 4) dX0_planVisits_56 (by decide) ?_
              exact r_mask [true, true, true, false] rfl (ih40 _ _ _ h)
            · refine r_aload_n (pc := 19) dX0_planVisits_19 rfl rfl ?_
              refine fX0_11 (pc := 20) hF dX0_planVisits_20 h0 (fun b53 => ?_)
              refine r_iload_n (pc := 23) dX0_planVisits_23 rfl rfl ?_
              refine r_cust (pc := 24) hF dX0_planVisits_24 b53 h (fun c54 b55 h => ?_)
              refine fX0_81 (pc := 25) dX0_planVisits_25 b55 h (fun x56 h => ?_)
              refine r_aload_n (pc := 28) dX0_planVisits_28 rfl rfl ?_
              refine fX0_21 (pc := 29) hF dX0_planVisits_29 h0 (fun b57 => ?_)
              refine r_iload_n (pc := 32) dX0_planVisits_32 rfl rfl ?_
              refine r_iald (pc := 33) dX0_planVisits_33 b57 h (fun x58 h => ?_)
              refine r_jnK h (fun (k61 : Int32 → gM → Option (gM)) => ∀ (x59 : Int32) (m60 : gM), k61 x59 m60 = some o → AW Y cX0_planVisits RX0 47 [some (.ref a0), some (.int x59), some (.int v43), some (.int v49)] [] m60) (fun x59 m60 h => ?_) (fun k61 hJ62 h => ?_)
              · refine r_iinc (pc := 47) (d := 1) dX0_planVisits_47 rfl (by decide) (by rw [hnL]; decide) h (fun x63 h => ?_)
                refine r_goto (pc := 50) (tgt := 11) dX0_planVisits_50 (by decide) ?_
                exact r_mask [true, true, true, true] rfl (ih46 _ _ _ h)
              · refine r_icmp_ne (pc := 34) (tgt := 47) dX0_planVisits_34 (by decide) h (fun h => ?_) (fun h => ?_)
                · exact r_mask [true, true, true, true] rfl (hJ62 _ _ h)
                · refine r_aload_n (pc := 37) dX0_planVisits_37 rfl rfl ?_
                  refine fX0_28 (pc := 38) hF dX0_planVisits_38 h0 (fun b64 => ?_)
                  refine r_iload_n (pc := 41) dX0_planVisits_41 rfl rfl ?_
                  refine r_iload_n (pc := 42) dX0_planVisits_42 rfl rfl ?_
                  refine r_iast (pc := 43) dX0_planVisits_43 b64 h (fun m65 h => ?_)
                  refine r_iinc (pc := 44) (d := 1) dX0_planVisits_44 rfl (by decide) (by rw [hnL]; decide) h (fun x66 h => ?_)
                  exact r_mask [true, true, true, true] rfl (hJ62 _ _ h)
        exact r_mask [true, true, true, true] rfl (L47 _ _ _ _ h)
  exact r_mask [true, true, true, false] rfl (L41 _ _ _ _ h)
set_option maxHeartbeats 4000000 in
set_option maxRecDepth 100000 in
theorem tX0_loavesFor (l : Launch) (G : gX) (u : gU) (hF : gFull u) (a0 : Nat) (p1 : Int32) (m : gM) (o : gM × Int32) (h : fX0_loavesFor a0 p1 m = some o) (h0 : gIn u a0 0 0) : gMet l G u yX0_loavesFor (.code yX0_loavesFor cX0_loavesFor 2 (some .int)) rmX0_loavesFor [.ref a0, .int p1] m o.1 (some (.int o.2)) := by
  refine gMet_of (own := RX0) (k := 0) (by decide) rfl ⟨rfl, rfl⟩ (Nat.le_of_ble_eq_true rfl) [some (.ref a0), some (.int p1)] rfl (fun Y hG hu hnL hLn hRm he => ?_)
  subst hG hu hLn
  unfold fX0_loavesFor at h
  refine r_iload_n (pc := 0) dX0_loavesFor_0 rfl rfl ?_
  refine r_aload_n (pc := 1) dX0_loavesFor_1 rfl rfl ?_
  refine fX0_25 (pc := 2) hF dX0_loavesFor_2 h0 (fun b1 => ?_)
  refine r_iconst (pc := 5) (v := 1) dX0_loavesFor_5 (by decide) ?_
  refine r_iald (pc := 6) dX0_loavesFor_6 b1 h (fun x2 h => ?_)
  refine r_iadd (pc := 7) dX0_loavesFor_7 ?_
  refine r_aload_n (pc := 8) dX0_loavesFor_8 rfl rfl ?_
  refine fX0_25 (pc := 9) hF dX0_loavesFor_9 h0 (fun b3 => ?_)
  refine r_iconst (pc := 12) (v := 0) dX0_loavesFor_12 (by decide) ?_
  refine r_iald (pc := 13) dX0_loavesFor_13 b3 h (fun x4 h => ?_)
  refine r_mmin (pc := 14) dX0_loavesFor_14 (i := 189) mwX0_189 (by rw [hRm]; decide) (Nat.le_of_ble_eq_true rfl) h (fun x5 h => ?_)
  exact r_iretH dX0_loavesFor_17 h he
set_option maxHeartbeats 4000000 in
set_option maxRecDepth 100000 in
theorem tX0_isReached (l : Launch) (G : gX) (u : gU) (hF : gFull u) (a0 : Nat) (a1 : Nat) (m : gM) (o : gM × Int32) (h : fX0_isReached a0 a1 m = some o) (h0 : gIn u a0 0 0) (h1 : gIn u a1 1 0) : gMet l G u yX0_isReached (.code yX0_isReached cX0_isReached 2 (some .boolean)) rmX0_isReached [.ref a0, .ref a1] m o.1 (some (.int o.2)) := by
  refine gMet_of (own := RX0) (k := 0) (by decide) rfl ⟨rfl, rfl⟩ (Nat.le_of_ble_eq_true rfl) [some (.ref a0), some (.ref a1)] rfl (fun Y hG hu hnL hLn hRm he => ?_)
  subst hG hu hLn
  unfold fX0_isReached at h
  refine r_aload_n (pc := 0) dX0_isReached_0 rfl rfl ?_
  refine r_aload_n (pc := 1) dX0_isReached_1 rfl rfl ?_
  refine fX0_81 (pc := 2) dX0_isReached_2 h1 h (fun x1 h => ?_)
  refine r_aload_n (pc := 5) dX0_isReached_5 rfl rfl ?_
  refine fX0_39 (pc := 6) dX0_isReached_6 h0 h (fun x2 h => ?_)
  obtain ⟨m3, x4, q5, h⟩ := gCl_some h
  refine r_callSN (pc := 9) [.int _] (tX5_weekdayOf _ _ _ hF _ _ _ q5) ⟨rfl, rfl⟩ cd_X5_weekdayOf wX0_84 nm_X5_weekdayOf rfl (by rw [hRm]; decide) rfl (Nat.le_of_ble_eq_true rfl) dX0_isReached_9 ?_
  obtain ⟨m6, x7, q8, h⟩ := gCl_some h
  refine r_callV (kd := 0) (pc := 12) [.int _, .int _] (tX0_isShut _ _ _ hF _ _ _ _ _ q8 h0) ⟨rfl, rfl⟩ cd_X0_isShut wX0_87 nm_X0_isShut rfl (by rw [hRm]; decide) rfl (Nat.le_of_ble_eq_true rfl) rfl (by decide) h0 dX0_isReached_12 ?_
  refine r_if_ne (pc := 15) (tgt := 22) dX0_isReached_15 (by decide) h (fun h => ?_) (fun h => ?_)
  · refine r_iconst (pc := 22) (v := 0) dX0_isReached_22 (by decide) ?_
    exact r_zretH dX0_isReached_23 rfl h he
  · refine r_iconst (pc := 18) (v := 1) dX0_isReached_18 (by decide) ?_
    refine r_goto (pc := 19) (tgt := 23) dX0_isReached_19 (by decide) ?_
    exact r_zretH dX0_isReached_23 rfl h he
set_option maxHeartbeats 4000000 in
set_option maxRecDepth 100000 in
theorem tX1_receive (l : Launch) (G : gX) (u : gU) (hF : gFull u) (a0 : Nat) (p1 : Int32) (p2 : Int32) (m : gM) (o : gM) (h : fX1_receive a0 p1 p2 m = some o) (h0 : gIn u a0 1 0) : gMet l G u yX1_receive (.code yX1_receive cX1_receive 3 none) rmX1_receive [.ref a0, .int p1, .int p2] m o none := by
  refine gMet_of (own := RX1) (k := 0) (by decide) rfl ⟨rfl, rfl⟩ (Nat.le_of_ble_eq_true rfl) [some (.ref a0), some (.int p1), some (.int p2)] rfl (fun Y hG hu hnL hLn hRm he => ?_)
  subst hG hu hLn
  unfold fX1_receive at h
  refine r_aload_n (pc := 0) dX1_receive_0 rfl rfl ?_
  refine r_dup (pc := 1) dX1_receive_1 rfl ?_
  refine fX1_28 (pc := 2) dX1_receive_2 h0 h (fun x1 h => ?_)
  refine r_iload_n (pc := 5) dX1_receive_5 rfl rfl ?_
  refine r_iadd (pc := 6) dX1_receive_6 ?_
  refine fX1_28p (pc := 7) dX1_receive_7 h0 h (fun m2 h => ?_)
  refine r_aload_n (pc := 10) dX1_receive_10 rfl rfl ?_
  refine r_dup (pc := 11) dX1_receive_11 rfl ?_
  refine fX1_25 (pc := 12) dX1_receive_12 h0 h (fun x3 h => ?_)
  refine r_iload_n (pc := 15) dX1_receive_15 rfl rfl ?_
  refine r_iload_n (pc := 16) dX1_receive_16 rfl rfl ?_
  refine r_isub (pc := 17) dX1_receive_17 ?_
  refine r_iadd (pc := 18) dX1_receive_18 ?_
  refine fX1_25p (pc := 19) dX1_receive_19 h0 h (fun m4 h => ?_)
  refine r_iload_n (pc := 22) dX1_receive_22 rfl rfl ?_
  refine r_if_le (pc := 23) (tgt := 43) dX1_receive_23 (by decide) h (fun h => ?_) (fun h => ?_)
  · refine r_iload_n (pc := 43) dX1_receive_43 rfl rfl ?_
    refine r_iload_n (pc := 44) dX1_receive_44 rfl rfl ?_
    refine r_icmp_ge (pc := 45) (tgt := 58) dX1_receive_45 (by decide) h (fun h => ?_) (fun h => ?_)
    · exact r_vretH dX1_receive_58 h he
    · refine r_aload_n (pc := 48) dX1_receive_48 rfl rfl ?_
      refine r_dup (pc := 49) dX1_receive_49 rfl ?_
      refine fX1_40 (pc := 50) dX1_receive_50 h0 h (fun x5 h => ?_)
      refine r_iconst (pc := 53) (v := 1) dX1_receive_53 (by decide) ?_
      refine r_iadd (pc := 54) dX1_receive_54 ?_
      refine fX1_40p (pc := 55) dX1_receive_55 h0 h (fun m6 h => ?_)
      exact r_vretH dX1_receive_58 h he
  · refine r_iload_n (pc := 26) dX1_receive_26 rfl rfl ?_
    refine r_if_ne (pc := 27) (tgt := 43) dX1_receive_27 (by decide) h (fun h => ?_) (fun h => ?_)
    · refine r_iload_n (pc := 43) dX1_receive_43 rfl rfl ?_
      refine r_iload_n (pc := 44) dX1_receive_44 rfl rfl ?_
      refine r_icmp_ge (pc := 45) (tgt := 58) dX1_receive_45 (by decide) h (fun h => ?_) (fun h => ?_)
      · exact r_vretH dX1_receive_58 h he
      · refine r_aload_n (pc := 48) dX1_receive_48 rfl rfl ?_
        refine r_dup (pc := 49) dX1_receive_49 rfl ?_
        refine fX1_40 (pc := 50) dX1_receive_50 h0 h (fun x7 h => ?_)
        refine r_iconst (pc := 53) (v := 1) dX1_receive_53 (by decide) ?_
        refine r_iadd (pc := 54) dX1_receive_54 ?_
        refine fX1_40p (pc := 55) dX1_receive_55 h0 h (fun m8 h => ?_)
        exact r_vretH dX1_receive_58 h he
    · refine r_aload_n (pc := 30) dX1_receive_30 rfl rfl ?_
      refine r_dup (pc := 31) dX1_receive_31 rfl ?_
      refine fX1_37 (pc := 32) dX1_receive_32 h0 h (fun x9 h => ?_)
      refine r_iconst (pc := 35) (v := 1) dX1_receive_35 (by decide) ?_
      refine r_iadd (pc := 36) dX1_receive_36 ?_
      refine fX1_37p (pc := 37) dX1_receive_37 h0 h (fun m10 h => ?_)
      refine r_goto (pc := 40) (tgt := 58) dX1_receive_40 (by decide) ?_
      exact r_vretH dX1_receive_58 h he
set_option maxHeartbeats 4000000 in
set_option maxRecDepth 100000 in
theorem tX0_handOut (l : Launch) (G : gX) (u : gU) (hF : gFull u) (a0 : Nat) (p1 : Int32) (m : gM) (o : gM × Int32) (h : fX0_handOut a0 p1 m = some o) (h0 : gIn u a0 0 0) : gMet l G u yX0_handOut (.code yX0_handOut cX0_handOut 7 (some .int)) rmX0_handOut [.ref a0, .int p1] m o.1 (some (.int o.2)) := by
  refine gMet_of (own := RX0) (k := 5) (by decide) rfl ⟨rfl, rfl⟩ (Nat.le_of_ble_eq_true rfl) [some (.ref a0), some (.int p1), none, none, none, none, none] rfl (fun Y hG hu hnL hLn hRm he => ?_)
  subst hG hu hLn
  unfold fX0_handOut at h
  refine r_iload_n (pc := 0) dX0_handOut_0 rfl rfl ?_
  refine r_istore_n (pc := 1) dX0_handOut_1 rfl (by rw [hnL]; decide) rfl ?_
  refine r_iconst (pc := 2) (v := 0) dX0_handOut_2 (by decide) ?_
  refine r_istore_n (pc := 3) dX0_handOut_3 rfl (by rw [hnL]; decide) rfl ?_
  have L29 : ∀ (n27 : Nat) (v30 : Int32) (v31 : Int32) (m32 : gM), fX0_handOut_L4 a0 n27 v30 v31 m32 = some o → AW Y cX0_handOut RX0 4 [some (.ref a0), none, some (.int v30), some (.int v31), none, none, none] [] m32 := by
    intro n27
    induction n27 with
    | zero =>
      intro v30 v31 m32 h
      exact absurd h (by simp [fX0_handOut_L4])
    | succ n27 ih28 =>
      intro v30 v31 m32 h
      rw [fX0_handOut_L4] at h
      refine r_iload_n (pc := 4) dX0_handOut_4 rfl rfl ?_
      refine r_aload_n (pc := 5) dX0_handOut_5 rfl rfl ?_
      refine fX0_35 (pc := 6) dX0_handOut_6 h0 h (fun x33 h => ?_)
      refine r_icmp_ge (pc := 9) (tgt := 95) dX0_handOut_9 (by decide) h (fun h => ?_) (fun h => ?_)
      · refine r_iload_n (pc := 95) dX0_handOut_95 rfl rfl ?_
        exact r_iretH dX0_handOut_96 h he
      · refine r_aload_n (pc := 12) dX0_handOut_12 rfl rfl ?_
        refine fX0_11 (pc := 13) hF dX0_handOut_13 h0 (fun b34 => ?_)
        refine r_aload_n (pc := 16) dX0_handOut_16 rfl rfl ?_
        refine fX0_28 (pc := 17) hF dX0_handOut_17 h0 (fun b35 => ?_)
        refine r_iload_n (pc := 20) dX0_handOut_20 rfl rfl ?_
        refine r_iald (pc := 21) dX0_handOut_21 b35 h (fun x36 h => ?_)
        refine r_cust (pc := 22) hF dX0_handOut_22 b34 h (fun c37 b38 h => ?_)
        refine r_astore (pc := 23) dX0_handOut_23 (by rw [hnL]; decide) rfl ?_
        refine r_aload (pc := 25) dX0_handOut_25 rfl ?_
        refine r_aload_n (pc := 27) dX0_handOut_27 rfl rfl ?_
        refine fX0_39 (pc := 28) dX0_handOut_28 h0 h (fun x39 h => ?_)
        obtain ⟨m40, x41, q42, h⟩ := gCl_some h
        refine r_callVN (kd := 1) (pc := 31) [.int _] (tX1_dueOn _ _ _ hF _ _ _ _ q42 b38) ⟨rfl, rfl⟩ cd_X1_dueOn wX0_78 nm_X1_dueOn rfl (by rw [hRm]; decide) rfl (Nat.le_of_ble_eq_true rfl) rfl (by decide) b38 dX0_handOut_31 ?_
        refine r_istore (pc := 34) dX0_handOut_34 (by rw [hnL]; decide) rfl ?_
        refine r_aload_n (pc := 36) dX0_handOut_36 rfl rfl ?_
        refine r_aload (pc := 37) dX0_handOut_37 rfl ?_
        obtain ⟨m43, x44, q45, h⟩ := gCl_some h
        refine r_callV (kd := 0) (pc := 39) [.ref _] (tX0_isReached _ _ _ hF _ _ _ _ q45 h0 b38) ⟨rfl, rfl⟩ cd_X0_isReached wX0_194 nm_X0_isReached rfl (by rw [hRm]; decide) rfl (Nat.le_of_ble_eq_true rfl) rfl (by decide) h0 dX0_handOut_39 ?_
        refine r_jnK h (fun (k47 : Int32 → Option (gM × Int32)) => ∀ (x46 : Int32), k47 x46 = some o → AW Y cX0_handOut RX0 55 [some (.ref a0), none, some (.int v30), some (.int v31), some (.ref ((a0 + 11) + 57 + 24 * c37)), some (.int x41), none] [.int x46] m43) (fun x46 h => ?_) (fun k47 hJ48 h => ?_)
        · refine r_istore (pc := 55) dX0_handOut_55 (by rw [hnL]; decide) rfl ?_
          refine r_aload_n (pc := 57) dX0_handOut_57 rfl rfl ?_
          refine r_dup (pc := 58) dX0_handOut_58 rfl ?_
          refine fX0_48 (pc := 59) dX0_handOut_59 h0 h (fun x49 h => ?_)
          refine r_iload (pc := 62) dX0_handOut_62 rfl ?_
          refine r_aload_n (pc := 64) dX0_handOut_64 rfl rfl ?_
          refine fX0_25 (pc := 65) hF dX0_handOut_65 h0 (fun b50 => ?_)
          refine r_iconst (pc := 68) (v := 4) dX0_handOut_68 (by decide) ?_
          refine r_iald (pc := 69) dX0_handOut_69 b50 h (fun x51 h => ?_)
          refine r_imul (pc := 70) dX0_handOut_70 ?_
          refine r_iadd (pc := 71) dX0_handOut_71 ?_
          refine fX0_48p (pc := 72) dX0_handOut_72 h0 h (fun m52 h => ?_)
          refine r_aload (pc := 75) dX0_handOut_75 rfl ?_
          refine r_iload (pc := 77) dX0_handOut_77 rfl ?_
          refine r_iload (pc := 79) dX0_handOut_79 rfl ?_
          obtain ⟨m53, q55, h⟩ := gCv_some h
          refine r_callVN (kd := 1) (pc := 81) [.int _, .int _] (tX1_receive _ _ _ hF _ _ _ _ _ q55 b38) ⟨rfl, rfl⟩ cd_X1_receive wX0_198 nm_X1_receive rfl (by rw [hRm]; decide) rfl (Nat.le_of_ble_eq_true rfl) rfl (by decide) b38 dX0_handOut_81 ?_
          refine r_iload_n (pc := 84) dX0_handOut_84 rfl rfl ?_
          refine r_iload (pc := 85) dX0_handOut_85 rfl ?_
          refine r_isub (pc := 87) dX0_handOut_87 ?_
          refine r_istore_nL (pc := 88) dX0_handOut_88 rfl (by rw [hnL]; decide) h (fun x56 h => ?_)
          refine r_iinc (pc := 89) (d := 1) dX0_handOut_89 rfl (by decide) (by rw [hnL]; decide) h (fun x57 h => ?_)
          refine r_goto (pc := 92) (tgt := 4) dX0_handOut_92 (by decide) ?_
          exact r_mask [true, false, true, true, false, false, false] rfl (ih28 _ _ _ h)
        · refine r_if_eq (pc := 42) (tgt := 54) dX0_handOut_42 (by decide) h (fun h => ?_) (fun h => ?_)
          · refine r_iconst (pc := 54) (v := 0) dX0_handOut_54 (by decide) ?_
            exact r_mask [true, false, true, true, true, true, false] rfl (hJ48 _ h)
          · refine r_iload (pc := 45) dX0_handOut_45 rfl ?_
            refine r_iload_n (pc := 47) dX0_handOut_47 rfl rfl ?_
            refine r_mmin (pc := 48) dX0_handOut_48 (i := 189) mwX0_189 (by rw [hRm]; decide) (Nat.le_of_ble_eq_true rfl) h (fun x58 h => ?_)
            refine r_goto (pc := 51) (tgt := 55) dX0_handOut_51 (by decide) ?_
            exact r_mask [true, false, true, true, true, true, false] rfl (hJ48 _ h)
  exact r_mask [true, false, true, true, false, false, false] rfl (L29 _ _ _ _ h)
set_option maxHeartbeats 4000000 in
set_option maxRecDepth 100000 in
theorem tX1_isAwayOn (l : Launch) (G : gX) (u : gU) (hF : gFull u) (a0 : Nat) (p1 : Int32) (m : gM) (o : gM × Int32) (h : fX1_isAwayOn a0 p1 m = some o) (h0 : gIn u a0 1 0) : gMet l G u yX1_isAwayOn (.code yX1_isAwayOn cX1_isAwayOn 2 (some .boolean)) rmX1_isAwayOn [.ref a0, .int p1] m o.1 (some (.int o.2)) := by
  refine gMet_of (own := RX1) (k := 0) (by decide) rfl ⟨rfl, rfl⟩ (Nat.le_of_ble_eq_true rfl) [some (.ref a0), some (.int p1)] rfl (fun Y hG hu hnL hLn hRm he => ?_)
  subst hG hu hLn
  unfold fX1_isAwayOn at h
  refine r_aload_n (pc := 0) dX1_isAwayOn_0 rfl rfl ?_
  refine r_iload_n (pc := 1) dX1_isAwayOn_1 rfl rfl ?_
  refine r_aload_n (pc := 2) dX1_isAwayOn_2 rfl rfl ?_
  refine fX1_43 (pc := 3) dX1_isAwayOn_3 h0 h (fun x1 h => ?_)
  obtain ⟨m2, x3, q4, h⟩ := gCl_some h
  refine r_callV (kd := 1) (pc := 6) [.int _, .int _] (tX1_isInFirstHolidays _ _ _ hF _ _ _ _ _ q4 h0) ⟨rfl, rfl⟩ cd_X1_isInFirstHolidays wX1_56 nm_X1_isInFirstHolidays rfl (by rw [hRm]; decide) rfl (Nat.le_of_ble_eq_true rfl) rfl (by decide) h0 dX1_isAwayOn_6 ?_
  exact r_zretH dX1_isAwayOn_9 rfl h he
set_option maxHeartbeats 4000000 in
set_option maxRecDepth 100000 in
theorem tX1_receiveForCredit (l : Launch) (G : gX) (u : gU) (hF : gFull u) (a0 : Nat) (p1 : Int32) (m : gM) (o : gM) (h : fX1_receiveForCredit a0 p1 m = some o) (h0 : gIn u a0 1 0) : gMet l G u yX1_receiveForCredit (.code yX1_receiveForCredit cX1_receiveForCredit 2 none) rmX1_receiveForCredit [.ref a0, .int p1] m o none := by
  refine gMet_of (own := RX1) (k := 0) (by decide) rfl ⟨rfl, rfl⟩ (Nat.le_of_ble_eq_true rfl) [some (.ref a0), some (.int p1)] rfl (fun Y hG hu hnL hLn hRm he => ?_)
  subst hG hu hLn
  unfold fX1_receiveForCredit at h
  refine r_aload_n (pc := 0) dX1_receiveForCredit_0 rfl rfl ?_
  refine r_dup (pc := 1) dX1_receiveForCredit_1 rfl ?_
  refine fX1_31 (pc := 2) dX1_receiveForCredit_2 h0 h (fun x1 h => ?_)
  refine r_iload_n (pc := 5) dX1_receiveForCredit_5 rfl rfl ?_
  refine r_iadd (pc := 6) dX1_receiveForCredit_6 ?_
  refine fX1_31p (pc := 7) dX1_receiveForCredit_7 h0 h (fun m2 h => ?_)
  refine r_aload_n (pc := 10) dX1_receiveForCredit_10 rfl rfl ?_
  refine r_dup (pc := 11) dX1_receiveForCredit_11 rfl ?_
  refine fX1_25 (pc := 12) dX1_receiveForCredit_12 h0 h (fun x3 h => ?_)
  refine r_iload_n (pc := 15) dX1_receiveForCredit_15 rfl rfl ?_
  refine r_isub (pc := 16) dX1_receiveForCredit_16 ?_
  refine fX1_25p (pc := 17) dX1_receiveForCredit_17 h0 h (fun m4 h => ?_)
  exact r_vretH dX1_receiveForCredit_20 h he
set_option maxHeartbeats 4000000 in
set_option maxRecDepth 100000 in
theorem tX0_makeGood (l : Launch) (G : gX) (u : gU) (hF : gFull u) (a0 : Nat) (p1 : Int32) (m : gM) (o : gM × Int32) (h : fX0_makeGood a0 p1 m = some o) (h0 : gIn u a0 0 0) : gMet l G u yX0_makeGood (.code yX0_makeGood cX0_makeGood 6 (some .int)) rmX0_makeGood [.ref a0, .int p1] m o.1 (some (.int o.2)) := by
  refine gMet_of (own := RX0) (k := 4) (by decide) rfl ⟨rfl, rfl⟩ (Nat.le_of_ble_eq_true rfl) [some (.ref a0), some (.int p1), none, none, none, none] rfl (fun Y hG hu hnL hLn hRm he => ?_)
  subst hG hu hLn
  unfold fX0_makeGood at h
  refine r_iload_n (pc := 0) dX0_makeGood_0 rfl rfl ?_
  refine r_istore_n (pc := 1) dX0_makeGood_1 rfl (by rw [hnL]; decide) rfl ?_
  refine r_iconst (pc := 2) (v := 0) dX0_makeGood_2 (by decide) ?_
  refine r_istore_n (pc := 3) dX0_makeGood_3 rfl (by rw [hnL]; decide) rfl ?_
  have L30 : ∀ (n28 : Nat) (v31 : Int32) (v32 : Int32) (m33 : gM), fX0_makeGood_L4 a0 n28 v31 v32 m33 = some o → AW Y cX0_makeGood RX0 4 [some (.ref a0), none, some (.int v31), some (.int v32), none, none] [] m33 := by
    intro n28
    induction n28 with
    | zero =>
      intro v31 v32 m33 h
      exact absurd h (by simp [fX0_makeGood_L4])
    | succ n28 ih29 =>
      intro v31 v32 m33 h
      rw [fX0_makeGood_L4] at h
      refine r_iload_n (pc := 4) dX0_makeGood_4 rfl rfl ?_
      refine r_aload_n (pc := 5) dX0_makeGood_5 rfl rfl ?_
      refine fX0_35 (pc := 6) dX0_makeGood_6 h0 h (fun x34 h => ?_)
      refine r_icmp_ge (pc := 9) (tgt := 84) dX0_makeGood_9 (by decide) h (fun h => ?_) (fun h => ?_)
      · refine r_iload_n (pc := 84) dX0_makeGood_84 rfl rfl ?_
        exact r_iretH dX0_makeGood_85 h he
      · refine r_aload_n (pc := 12) dX0_makeGood_12 rfl rfl ?_
        refine fX0_11 (pc := 13) hF dX0_makeGood_13 h0 (fun b35 => ?_)
        refine r_aload_n (pc := 16) dX0_makeGood_16 rfl rfl ?_
        refine fX0_28 (pc := 17) hF dX0_makeGood_17 h0 (fun b36 => ?_)
        refine r_iload_n (pc := 20) dX0_makeGood_20 rfl rfl ?_
        refine r_iald (pc := 21) dX0_makeGood_21 b36 h (fun x37 h => ?_)
        refine r_cust (pc := 22) hF dX0_makeGood_22 b35 h (fun c38 b39 h => ?_)
        refine r_astore (pc := 23) dX0_makeGood_23 (by rw [hnL]; decide) rfl ?_
        refine r_aload_n (pc := 25) dX0_makeGood_25 rfl rfl ?_
        refine r_aload (pc := 26) dX0_makeGood_26 rfl ?_
        obtain ⟨m40, x41, q42, h⟩ := gCl_some h
        refine r_callV (kd := 0) (pc := 28) [.ref _] (tX0_isReached _ _ _ hF _ _ _ _ q42 h0 b39) ⟨rfl, rfl⟩ cd_X0_isReached wX0_194 nm_X0_isReached rfl (by rw [hRm]; decide) rfl (Nat.le_of_ble_eq_true rfl) rfl (by decide) h0 dX0_makeGood_28 ?_
        refine r_jnK h (fun (k45 : Int32 → gM → Option (gM × Int32)) => ∀ (x43 : Int32) (m44 : gM), k45 x43 m44 = some o → AW Y cX0_makeGood RX0 78 [some (.ref a0), none, some (.int x43), some (.int v32), none, none] [] m44) (fun x43 m44 h => ?_) (fun k45 hJ46 h => ?_)
        · refine r_iinc (pc := 78) (d := 1) dX0_makeGood_78 rfl (by decide) (by rw [hnL]; decide) h (fun x47 h => ?_)
          refine r_goto (pc := 81) (tgt := 4) dX0_makeGood_81 (by decide) ?_
          exact r_mask [true, false, true, true, false, false] rfl (ih29 _ _ _ h)
        · refine r_if_eq (pc := 31) (tgt := 78) dX0_makeGood_31 (by decide) h (fun h => ?_) (fun h => ?_)
          · exact r_mask [true, false, true, true, false, false] rfl (hJ46 _ _ h)
          · refine r_aload (pc := 34) dX0_makeGood_34 rfl ?_
            refine r_aload_n (pc := 36) dX0_makeGood_36 rfl rfl ?_
            refine fX0_39 (pc := 37) dX0_makeGood_37 h0 h (fun x48 h => ?_)
            obtain ⟨m49, x50, q51, h⟩ := gCl_some h
            refine r_callVN (kd := 1) (pc := 40) [.int _] (tX1_isAwayOn _ _ _ hF _ _ _ _ q51 b39) ⟨rfl, rfl⟩ cd_X1_isAwayOn wX0_201 nm_X1_isAwayOn rfl (by rw [hRm]; decide) rfl (Nat.le_of_ble_eq_true rfl) rfl (by decide) b39 dX0_makeGood_40 ?_
            refine r_if_ne (pc := 43) (tgt := 78) dX0_makeGood_43 (by decide) h (fun h => ?_) (fun h => ?_)
            · exact r_mask [true, false, true, true, false, false] rfl (hJ46 _ _ h)
            · refine r_iload_n (pc := 46) dX0_makeGood_46 rfl rfl ?_
              refine r_aload (pc := 47) dX0_makeGood_47 rfl ?_
              refine fX0_204 (pc := 49) dX0_makeGood_49 b39 h (fun x52 h => ?_)
              refine r_aload_n (pc := 52) dX0_makeGood_52 rfl rfl ?_
              refine fX0_25 (pc := 53) hF dX0_makeGood_53 h0 (fun b53 => ?_)
              refine r_iconst (pc := 56) (v := 2) dX0_makeGood_56 (by decide) ?_
              refine r_iald (pc := 57) dX0_makeGood_57 b53 h (fun x54 h => ?_)
              refine r_mmin (pc := 58) dX0_makeGood_58 (i := 189) mwX0_189 (by rw [hRm]; decide) (Nat.le_of_ble_eq_true rfl) h (fun x55 h => ?_)
              refine r_mmin (pc := 61) dX0_makeGood_61 (i := 189) mwX0_189 (by rw [hRm]; decide) (Nat.le_of_ble_eq_true rfl) h (fun x56 h => ?_)
              refine r_istore (pc := 64) dX0_makeGood_64 (by rw [hnL]; decide) rfl ?_
              refine r_aload (pc := 66) dX0_makeGood_66 rfl ?_
              refine r_iload (pc := 68) dX0_makeGood_68 rfl ?_
              obtain ⟨m57, q59, h⟩ := gCv_some h
              refine r_callVN (kd := 1) (pc := 70) [.int _] (tX1_receiveForCredit _ _ _ hF _ _ _ _ q59 b39) ⟨rfl, rfl⟩ cd_X1_receiveForCredit wX0_207 nm_X1_receiveForCredit rfl (by rw [hRm]; decide) rfl (Nat.le_of_ble_eq_true rfl) rfl (by decide) b39 dX0_makeGood_70 ?_
              refine r_iload_n (pc := 73) dX0_makeGood_73 rfl rfl ?_
              refine r_iload (pc := 74) dX0_makeGood_74 rfl ?_
              refine r_isub (pc := 76) dX0_makeGood_76 ?_
              refine r_istore_nL (pc := 77) dX0_makeGood_77 rfl (by rw [hnL]; decide) h (fun x60 h => ?_)
              exact r_mask [true, false, true, true, false, false] rfl (hJ46 _ _ h)
  exact r_mask [true, false, true, true, false, false] rfl (L30 _ _ _ _ h)
set_option maxHeartbeats 4000000 in
set_option maxRecDepth 100000 in
theorem tX1_cutCredit (l : Launch) (G : gX) (u : gU) (hF : gFull u) (a0 : Nat) (p1 : Int32) (m : gM) (o : gM × Int32) (h : fX1_cutCredit a0 p1 m = some o) (h0 : gIn u a0 1 0) : gMet l G u yX1_cutCredit (.code yX1_cutCredit cX1_cutCredit 3 (some .int)) rmX1_cutCredit [.ref a0, .int p1] m o.1 (some (.int o.2)) := by
  refine gMet_of (own := RX1) (k := 1) (by decide) rfl ⟨rfl, rfl⟩ (Nat.le_of_ble_eq_true rfl) [some (.ref a0), some (.int p1), none] rfl (fun Y hG hu hnL hLn hRm he => ?_)
  subst hG hu hLn
  unfold fX1_cutCredit at h
  refine r_iconst (pc := 0) (v := 0) dX1_cutCredit_0 (by decide) ?_
  refine r_aload_n (pc := 1) dX1_cutCredit_1 rfl rfl ?_
  refine fX1_25 (pc := 2) dX1_cutCredit_2 h0 h (fun x1 h => ?_)
  refine r_iload_n (pc := 5) dX1_cutCredit_5 rfl rfl ?_
  refine r_isub (pc := 6) dX1_cutCredit_6 ?_
  refine r_mmax (pc := 7) dX1_cutCredit_7 (i := 76) mwX1_76 (by rw [hRm]; decide) (Nat.le_of_ble_eq_true rfl) h (fun x2 h => ?_)
  refine r_istore_n (pc := 10) dX1_cutCredit_10 rfl (by rw [hnL]; decide) rfl ?_
  refine r_aload_n (pc := 11) dX1_cutCredit_11 rfl rfl ?_
  refine r_dup (pc := 12) dX1_cutCredit_12 rfl ?_
  refine fX1_25 (pc := 13) dX1_cutCredit_13 h0 h (fun x3 h => ?_)
  refine r_iload_n (pc := 16) dX1_cutCredit_16 rfl rfl ?_
  refine r_isub (pc := 17) dX1_cutCredit_17 ?_
  refine fX1_25p (pc := 18) dX1_cutCredit_18 h0 h (fun m4 h => ?_)
  refine r_aload_n (pc := 21) dX1_cutCredit_21 rfl rfl ?_
  refine r_dup (pc := 22) dX1_cutCredit_22 rfl ?_
  refine fX1_34 (pc := 23) dX1_cutCredit_23 h0 h (fun x5 h => ?_)
  refine r_iload_n (pc := 26) dX1_cutCredit_26 rfl rfl ?_
  refine r_iadd (pc := 27) dX1_cutCredit_27 ?_
  refine fX1_34p (pc := 28) dX1_cutCredit_28 h0 h (fun m6 h => ?_)
  refine r_iload_n (pc := 31) dX1_cutCredit_31 rfl rfl ?_
  exact r_iretH dX1_cutCredit_32 h he
set_option maxHeartbeats 4000000 in
set_option maxRecDepth 100000 in
theorem tX0_payBack (l : Launch) (G : gX) (u : gU) (hF : gFull u) (a0 : Nat) (m : gM) (o : gM) (h : fX0_payBack a0 m = some o) (h0 : gIn u a0 0 0) : gMet l G u yX0_payBack (.code yX0_payBack cX0_payBack 2 none) rmX0_payBack [.ref a0] m o none := by
  refine gMet_of (own := RX0) (k := 1) (by decide) rfl ⟨rfl, rfl⟩ (Nat.le_of_ble_eq_true rfl) [some (.ref a0), none] rfl (fun Y hG hu hnL hLn hRm he => ?_)
  subst hG hu hLn
  unfold fX0_payBack at h
  refine r_iconst (pc := 0) (v := 0) dX0_payBack_0 (by decide) ?_
  refine r_istore_n (pc := 1) dX0_payBack_1 rfl (by rw [hnL]; decide) rfl ?_
  have L17 : ∀ (n15 : Nat) (v18 : Int32) (m19 : gM), fX0_payBack_L2 a0 n15 v18 m19 = some o → AW Y cX0_payBack RX0 2 [some (.ref a0), some (.int v18)] [] m19 := by
    intro n15
    induction n15 with
    | zero =>
      intro v18 m19 h
      exact absurd h (by simp [fX0_payBack_L2])
    | succ n15 ih16 =>
      intro v18 m19 h
      rw [fX0_payBack_L2] at h
      refine r_iload_n (pc := 2) dX0_payBack_2 rfl rfl ?_
      refine r_aload_n (pc := 3) dX0_payBack_3 rfl rfl ?_
      refine fX0_35 (pc := 4) dX0_payBack_4 h0 h (fun x20 h => ?_)
      refine r_icmp_ge (pc := 7) (tgt := 47) dX0_payBack_7 (by decide) h (fun h => ?_) (fun h => ?_)
      · exact r_vretH dX0_payBack_47 h he
      · refine r_aload_n (pc := 10) dX0_payBack_10 rfl rfl ?_
        refine r_dup (pc := 11) dX0_payBack_11 rfl ?_
        refine fX0_51 (pc := 12) dX0_payBack_12 h0 h (fun x21 h => ?_)
        refine r_aload_n (pc := 15) dX0_payBack_15 rfl rfl ?_
        refine fX0_11 (pc := 16) hF dX0_payBack_16 h0 (fun b22 => ?_)
        refine r_iload_n (pc := 19) dX0_payBack_19 rfl rfl ?_
        refine r_cust (pc := 20) hF dX0_payBack_20 b22 h (fun c23 b24 h => ?_)
        refine r_aload_n (pc := 21) dX0_payBack_21 rfl rfl ?_
        refine fX0_25 (pc := 22) hF dX0_payBack_22 h0 (fun b25 => ?_)
        refine r_iconst (pc := 25) (v := 3) dX0_payBack_25 (by decide) ?_
        refine r_iald (pc := 26) dX0_payBack_26 b25 h (fun x26 h => ?_)
        obtain ⟨m27, x28, q29, h⟩ := gCl_some h
        refine r_callVN (kd := 1) (pc := 27) [.int _] (tX1_cutCredit _ _ _ hF _ _ _ _ q29 b24) ⟨rfl, rfl⟩ cd_X1_cutCredit wX0_211 nm_X1_cutCredit rfl (by rw [hRm]; decide) rfl (Nat.le_of_ble_eq_true rfl) rfl (by decide) b24 dX0_payBack_27 ?_
        refine r_aload_n (pc := 30) dX0_payBack_30 rfl rfl ?_
        refine fX0_25 (pc := 31) hF dX0_payBack_31 h0 (fun b30 => ?_)
        refine r_iconst (pc := 34) (v := 4) dX0_payBack_34 (by decide) ?_
        refine r_iald (pc := 35) dX0_payBack_35 b30 h (fun x31 h => ?_)
        refine r_imul (pc := 36) dX0_payBack_36 ?_
        refine r_iadd (pc := 37) dX0_payBack_37 ?_
        refine fX0_51p (pc := 38) dX0_payBack_38 h0 h (fun m32 h => ?_)
        refine r_iinc (pc := 41) (d := 1) dX0_payBack_41 rfl (by decide) (by rw [hnL]; decide) h (fun x33 h => ?_)
        refine r_goto (pc := 44) (tgt := 2) dX0_payBack_44 (by decide) ?_
        exact r_mask [true, true] rfl (ih16 _ _ h)
  exact r_mask [true, true] rfl (L17 _ _ _ h)
set_option maxHeartbeats 4000000 in
set_option maxRecDepth 100000 in
theorem tX0_deliver (l : Launch) (G : gX) (u : gU) (hF : gFull u) (a0 : Nat) (p1 : Int32) (m : gM) (o : gM × Int32) (h : fX0_deliver a0 p1 m = some o) (h0 : gIn u a0 0 0) : gMet l G u yX0_deliver (.code yX0_deliver cX0_deliver 6 (some .int)) rmX0_deliver [.ref a0, .int p1] m o.1 (some (.int o.2)) := by
  refine gMet_of (own := RX0) (k := 4) (by decide) rfl ⟨rfl, rfl⟩ (Nat.le_of_ble_eq_true rfl) [some (.ref a0), some (.int p1), none, none, none, none] rfl (fun Y hG hu hnL hLn hRm he => ?_)
  subst hG hu hLn
  unfold fX0_deliver at h
  refine r_iconst (pc := 0) (v := 0) dX0_deliver_0 (by decide) ?_
  refine r_istore_n (pc := 1) dX0_deliver_1 rfl (by rw [hnL]; decide) rfl ?_
  refine r_aload_n (pc := 2) dX0_deliver_2 rfl rfl ?_
  obtain ⟨m1, q3, h⟩ := gCv_some h
  refine r_callV (kd := 0) (pc := 3) [] (tX0_planVisits _ _ _ hF _ _ _ q3 h0) ⟨rfl, rfl⟩ cd_X0_planVisits wX0_174 nm_X0_planVisits rfl (by rw [hRm]; decide) rfl (Nat.le_of_ble_eq_true rfl) rfl (by decide) h0 dX0_deliver_3 ?_
  refine r_iconst (pc := 6) (v := 0) dX0_deliver_6 (by decide) ?_
  refine r_istore_n (pc := 7) dX0_deliver_7 rfl (by rw [hnL]; decide) rfl ?_
  have L29 : ∀ (n27 : Nat) (v30 : Int32) (v31 : Int32) (m32 : gM), fX0_deliver_L8 a0 p1 n27 v30 v31 m32 = some o → AW Y cX0_deliver RX0 8 [some (.ref a0), some (.int p1), some (.int v30), some (.int v31), none, none] [] m32 := by
    intro n27
    induction n27 with
    | zero =>
      intro v30 v31 m32 h
      exact absurd h (by simp [fX0_deliver_L8])
    | succ n27 ih28 =>
      intro v30 v31 m32 h
      rw [fX0_deliver_L8] at h
      refine r_iload_n (pc := 8) dX0_deliver_8 rfl rfl ?_
      refine r_iload_n (pc := 9) dX0_deliver_9 rfl rfl ?_
      refine r_icmp_ge (pc := 10) (tgt := 85) dX0_deliver_10 (by decide) h (fun h => ?_) (fun h => ?_)
      · refine r_iload_n (pc := 85) dX0_deliver_85 rfl rfl ?_
        exact r_iretH dX0_deliver_86 h he
      · refine r_aload_n (pc := 13) dX0_deliver_13 rfl rfl ?_
        refine r_aload_n (pc := 14) dX0_deliver_14 rfl rfl ?_
        obtain ⟨m33, x34, q35, h⟩ := gCl_some h
        refine r_callV (kd := 0) (pc := 15) [] (tX0_dueToAll _ _ _ hF _ _ _ q35 h0) ⟨rfl, rfl⟩ cd_X0_dueToAll wX0_71 nm_X0_dueToAll rfl (by rw [hRm]; decide) rfl (Nat.le_of_ble_eq_true rfl) rfl (by decide) h0 dX0_deliver_15 ?_
        obtain ⟨m36, x37, q38, h⟩ := gCl_some h
        refine r_callV (kd := 0) (pc := 18) [.int _] (tX0_loavesFor _ _ _ hF _ _ _ _ q38 h0) ⟨rfl, rfl⟩ cd_X0_loavesFor wX0_177 nm_X0_loavesFor rfl (by rw [hRm]; decide) rfl (Nat.le_of_ble_eq_true rfl) rfl (by decide) h0 dX0_deliver_18 ?_
        refine r_istore (pc := 21) dX0_deliver_21 (by rw [hnL]; decide) rfl ?_
        refine r_aload_n (pc := 23) dX0_deliver_23 rfl rfl ?_
        refine r_aload_n (pc := 24) dX0_deliver_24 rfl rfl ?_
        refine r_iload (pc := 25) dX0_deliver_25 rfl ?_
        obtain ⟨m39, x40, q41, h⟩ := gCl_some h
        refine r_callV (kd := 0) (pc := 27) [.int _] (tX0_handOut _ _ _ hF _ _ _ _ q41 h0) ⟨rfl, rfl⟩ cd_X0_handOut wX0_180 nm_X0_handOut rfl (by rw [hRm]; decide) rfl (Nat.le_of_ble_eq_true rfl) rfl (by decide) h0 dX0_deliver_27 ?_
        obtain ⟨m42, x43, q44, h⟩ := gCl_some h
        refine r_callV (kd := 0) (pc := 30) [.int _] (tX0_makeGood _ _ _ hF _ _ _ _ q44 h0) ⟨rfl, rfl⟩ cd_X0_makeGood wX0_183 nm_X0_makeGood rfl (by rw [hRm]; decide) rfl (Nat.le_of_ble_eq_true rfl) rfl (by decide) h0 dX0_deliver_30 ?_
        refine r_istore (pc := 33) dX0_deliver_33 (by rw [hnL]; decide) rfl ?_
        refine r_aload_n (pc := 35) dX0_deliver_35 rfl rfl ?_
        refine r_dup (pc := 36) dX0_deliver_36 rfl ?_
        refine fX0_42 (pc := 37) dX0_deliver_37 h0 h (fun x45 h => ?_)
        refine r_iload (pc := 40) dX0_deliver_40 rfl ?_
        refine r_iadd (pc := 42) dX0_deliver_42 ?_
        refine fX0_42p (pc := 43) dX0_deliver_43 h0 h (fun m46 h => ?_)
        refine r_aload_n (pc := 46) dX0_deliver_46 rfl rfl ?_
        refine r_dup (pc := 47) dX0_deliver_47 rfl ?_
        refine fX0_45 (pc := 48) dX0_deliver_48 h0 h (fun x47 h => ?_)
        refine r_iload (pc := 51) dX0_deliver_51 rfl ?_
        refine r_iadd (pc := 53) dX0_deliver_53 ?_
        refine fX0_45p (pc := 54) dX0_deliver_54 h0 h (fun m48 h => ?_)
        refine r_iload_n (pc := 57) dX0_deliver_57 rfl rfl ?_
        refine r_iload (pc := 58) dX0_deliver_58 rfl ?_
        refine r_iload (pc := 60) dX0_deliver_60 rfl ?_
        refine r_isub (pc := 62) dX0_deliver_62 ?_
        refine r_iadd (pc := 63) dX0_deliver_63 ?_
        refine r_istore_nL (pc := 64) dX0_deliver_64 rfl (by rw [hnL]; decide) h (fun x49 h => ?_)
        refine r_aload_n (pc := 65) dX0_deliver_65 rfl rfl ?_
        obtain ⟨m50, q52, h⟩ := gCv_some h
        refine r_callV (kd := 0) (pc := 66) [] (tX0_payBack _ _ _ hF _ _ _ q52 h0) ⟨rfl, rfl⟩ cd_X0_payBack wX0_186 nm_X0_payBack rfl (by rw [hRm]; decide) rfl (Nat.le_of_ble_eq_true rfl) rfl (by decide) h0 dX0_deliver_66 ?_
        refine r_aload_n (pc := 69) dX0_deliver_69 rfl rfl ?_
        refine r_dup (pc := 70) dX0_deliver_70 rfl ?_
        refine fX0_39 (pc := 71) dX0_deliver_71 h0 h (fun x53 h => ?_)
        refine r_iconst (pc := 74) (v := 1) dX0_deliver_74 (by decide) ?_
        refine r_iadd (pc := 75) dX0_deliver_75 ?_
        refine fX0_39p (pc := 76) dX0_deliver_76 h0 h (fun m54 h => ?_)
        refine r_iinc (pc := 79) (d := 1) dX0_deliver_79 rfl (by decide) (by rw [hnL]; decide) h (fun x55 h => ?_)
        refine r_goto (pc := 82) (tgt := 8) dX0_deliver_82 (by decide) ?_
        exact r_mask [true, true, true, true, false, false] rfl (ih28 _ _ _ h)
  exact r_mask [true, true, true, true, false, false] rfl (L29 _ _ _ _ h)
set_option maxHeartbeats 4000000 in
set_option maxRecDepth 100000 in
theorem tX0_perform (l : Launch) (G : gX) (u : gU) (hF : gFull u) (a0 : Nat) (p1 : Int32) (p2 : Int32) (p3 : Int32) (p4 : Int32) (m : gM) (o : gM × Int32) (h : fX0_perform a0 p1 p2 p3 p4 m = some o) (h0 : gIn u a0 0 0) : gMet l G u yX0_perform (.code yX0_perform cX0_perform 5 (some .int)) rmX0_perform [.ref a0, .int p1, .int p2, .int p3, .int p4] m o.1 (some (.int o.2)) := by
  refine gMet_of (own := RX0) (k := 0) (by decide) rfl ⟨rfl, rfl⟩ (Nat.le_of_ble_eq_true rfl) [some (.ref a0), some (.int p1), some (.int p2), some (.int p3), some (.int p4)] rfl (fun Y hG hu hnL hLn hRm he => ?_)
  subst hG hu hLn
  unfold fX0_perform at h
  refine r_aload_n (pc := 0) dX0_perform_0 rfl rfl ?_
  refine r_iload_n (pc := 1) dX0_perform_1 rfl rfl ?_
  refine r_iload_n (pc := 2) dX0_perform_2 rfl rfl ?_
  refine r_iload_n (pc := 3) dX0_perform_3 rfl rfl ?_
  refine r_iload (pc := 4) dX0_perform_4 rfl ?_
  obtain ⟨m1, x2, q3, h⟩ := gCl_some h
  refine r_callV (kd := 0) (pc := 6) [.int _, .int _, .int _, .int _] (tX0_refusalOf _ _ _ hF _ _ _ _ _ _ _ q3 h0) ⟨rfl, rfl⟩ cd_X0_refusalOf wX0_137 nm_X0_refusalOf rfl (by rw [hRm]; decide) rfl (Nat.le_of_ble_eq_true rfl) rfl (by decide) h0 dX0_perform_6 ?_
  obtain ⟨b4, h⟩ := gOkE_some h
  refine sX0_131 (pc := 9) dX0_perform_9 ?_
  refine r_acmp_eq (pc := 12) (tgt := 17) dX0_perform_12 (by decide) b4 (gEnum 0 (by decide)) h (fun h => ?_) (fun h => ?_)
  · refine r_iload_n (pc := 17) dX0_perform_17 rfl rfl ?_
    refine r_sw h (fun g5 h => ?_) (fun g5 h => ?_)
    · refine r_tabIn (pc := 18) (tgt := 60) (v := 0) dX0_perform_18 g5 (by decide) (by decide) rfl (by decide) ?_
      refine r_aload_n (pc := 60) dX0_perform_60 rfl rfl ?_
      refine r_iload_n (pc := 61) dX0_perform_61 rfl rfl ?_
      refine r_iload_n (pc := 62) dX0_perform_62 rfl rfl ?_
      obtain ⟨m6, x7, q8, h⟩ := gCl_some h
      refine r_callV (kd := 0) (pc := 63) [.int _, .int _] (tX0_addCustomer _ _ _ hF _ _ _ _ _ q8 h0) ⟨rfl, rfl⟩ cd_X0_addCustomer wX0_141 nm_X0_addCustomer rfl (by rw [hRm]; decide) rfl (Nat.le_of_ble_eq_true rfl) rfl (by decide) h0 dX0_perform_63 ?_
      exact r_iretH dX0_perform_66 h he
    refine r_sw h (fun g9 h => ?_) (fun g9 h => ?_)
    · refine r_tabIn (pc := 18) (tgt := 67) (v := 1) dX0_perform_18 g9 (by decide) (by decide) rfl (by decide) ?_
      refine r_aload_n (pc := 67) dX0_perform_67 rfl rfl ?_
      refine fX0_11 (pc := 68) hF dX0_perform_68 h0 (fun b10 => ?_)
      refine r_iload_n (pc := 71) dX0_perform_71 rfl rfl ?_
      refine r_cust (pc := 72) hF dX0_perform_72 b10 h (fun c11 b12 h => ?_)
      refine r_iload_n (pc := 73) dX0_perform_73 rfl rfl ?_
      refine r_iload (pc := 74) dX0_perform_74 rfl ?_
      obtain ⟨m13, x14, q15, h⟩ := gCl_some h
      refine r_callVN (kd := 1) (pc := 76) [.int _, .int _] (tX1_putLoaves _ _ _ hF _ _ _ _ _ q15 b12) ⟨rfl, rfl⟩ cd_X1_putLoaves wX0_145 nm_X1_putLoaves rfl (by rw [hRm]; decide) rfl (Nat.le_of_ble_eq_true rfl) rfl (by decide) b12 dX0_perform_76 ?_
      exact r_iretH dX0_perform_79 h he
    refine r_sw h (fun g16 h => ?_) (fun g16 h => ?_)
    · refine r_tabIn (pc := 18) (tgt := 80) (v := 2) dX0_perform_18 g16 (by decide) (by decide) rfl (by decide) ?_
      refine r_aload_n (pc := 80) dX0_perform_80 rfl rfl ?_
      refine fX0_11 (pc := 81) hF dX0_perform_81 h0 (fun b17 => ?_)
      refine r_iload_n (pc := 84) dX0_perform_84 rfl rfl ?_
      refine r_cust (pc := 85) hF dX0_perform_85 b17 h (fun c18 b19 h => ?_)
      refine r_iload_n (pc := 86) dX0_perform_86 rfl rfl ?_
      refine r_iload (pc := 87) dX0_perform_87 rfl ?_
      obtain ⟨m20, x21, q22, h⟩ := gCl_some h
      refine r_callVN (kd := 1) (pc := 89) [.int _, .int _] (tX1_addHoliday _ _ _ hF _ _ _ _ _ q22 b19) ⟨rfl, rfl⟩ cd_X1_addHoliday wX0_148 nm_X1_addHoliday rfl (by rw [hRm]; decide) rfl (Nat.le_of_ble_eq_true rfl) rfl (by decide) b19 dX0_perform_89 ?_
      exact r_iretH dX0_perform_92 h he
    refine r_sw h (fun g23 h => ?_) (fun g23 h => ?_)
    · refine r_tabIn (pc := 18) (tgt := 93) (v := 3) dX0_perform_18 g23 (by decide) (by decide) rfl (by decide) ?_
      refine r_aload_n (pc := 93) dX0_perform_93 rfl rfl ?_
      refine fX0_11 (pc := 94) hF dX0_perform_94 h0 (fun b24 => ?_)
      refine r_iload_n (pc := 97) dX0_perform_97 rfl rfl ?_
      refine r_cust (pc := 98) hF dX0_perform_98 b24 h (fun c25 b26 h => ?_)
      refine r_iload_n (pc := 99) dX0_perform_99 rfl rfl ?_
      obtain ⟨m27, x28, q29, h⟩ := gCl_some h
      refine r_callVN (kd := 1) (pc := 100) [.int _] (tX1_dropHoliday _ _ _ hF _ _ _ _ q29 b26) ⟨rfl, rfl⟩ cd_X1_dropHoliday wX0_151 nm_X1_dropHoliday rfl (by rw [hRm]; decide) rfl (Nat.le_of_ble_eq_true rfl) rfl (by decide) b26 dX0_perform_100 ?_
      exact r_iretH dX0_perform_103 h he
    refine r_sw h (fun g30 h => ?_) (fun g30 h => ?_)
    · refine r_tabIn (pc := 18) (tgt := 104) (v := 4) dX0_perform_18 g30 (by decide) (by decide) rfl (by decide) ?_
      refine r_aload_n (pc := 104) dX0_perform_104 rfl rfl ?_
      refine r_iload_n (pc := 105) dX0_perform_105 rfl rfl ?_
      refine r_iload_n (pc := 106) dX0_perform_106 rfl rfl ?_
      refine r_iload (pc := 107) dX0_perform_107 rfl ?_
      refine r_iconst (pc := 109) (v := 1) dX0_perform_109 (by decide) ?_
      refine r_jn1 h (fun x31 => AW Y cX0_perform RX0 118 [none, none, none, none, none] [.int x31, .int p3, .int p2, .ref a0] m1) (fun x31 h => ?_) (fun hJ32 => ?_)
      · obtain ⟨m34, x35, q36, h⟩ := gCl_some h
        refine r_callV (kd := 0) (pc := 118) [.int _, .int _, .int _] (tX0_closeStreet _ _ _ hF _ _ _ _ _ _ q36 h0) ⟨rfl, rfl⟩ cd_X0_closeStreet wX0_154 nm_X0_closeStreet rfl (by rw [hRm]; decide) rfl (Nat.le_of_ble_eq_true rfl) rfl (by decide) h0 dX0_perform_118 ?_
        exact r_iretH dX0_perform_121 h he
      · refine r_icmpC_ne (pc := 110) (tgt := 117) dX0_perform_110 (by decide) (fun g33 => ?_) (fun g33 => ?_)
        · refine r_iconst (pc := 117) (v := 0) dX0_perform_117 (by decide) ?_
          exact r_mask [false, false, false, false, false] rfl (hJ32 _ (by rw [if_neg g33]))
        · refine r_iconst (pc := 113) (v := 1) dX0_perform_113 (by decide) ?_
          refine r_goto (pc := 114) (tgt := 118) dX0_perform_114 (by decide) ?_
          exact r_mask [false, false, false, false, false] rfl (hJ32 _ (by rw [if_pos g33]))
    refine r_sw h (fun g37 h => ?_) (fun g37 h => ?_)
    · refine r_tabIn (pc := 18) (tgt := 122) (v := 5) dX0_perform_18 g37 (by decide) (by decide) rfl (by decide) ?_
      refine r_aload_n (pc := 122) dX0_perform_122 rfl rfl ?_
      refine r_iload_n (pc := 123) dX0_perform_123 rfl rfl ?_
      refine r_iload_n (pc := 124) dX0_perform_124 rfl rfl ?_
      obtain ⟨m38, x39, q40, h⟩ := gCl_some h
      refine r_callV (kd := 0) (pc := 125) [.int _, .int _] (tX0_swapStreets _ _ _ hF _ _ _ _ _ q40 h0) ⟨rfl, rfl⟩ cd_X0_swapStreets wX0_158 nm_X0_swapStreets rfl (by rw [hRm]; decide) rfl (Nat.le_of_ble_eq_true rfl) rfl (by decide) h0 dX0_perform_125 ?_
      exact r_iretH dX0_perform_128 h he
    refine r_sw h (fun g41 h => ?_) (fun g41 h => ?_)
    · refine r_tabIn (pc := 18) (tgt := 129) (v := 6) dX0_perform_18 g41 (by decide) (by decide) rfl (by decide) ?_
      refine r_aload_n (pc := 129) dX0_perform_129 rfl rfl ?_
      refine r_iload_n (pc := 130) dX0_perform_130 rfl rfl ?_
      refine r_iload_n (pc := 131) dX0_perform_131 rfl rfl ?_
      obtain ⟨m42, x43, q44, h⟩ := gCl_some h
      refine r_callV (kd := 0) (pc := 132) [.int _, .int _] (tX0_changeSetting _ _ _ hF _ _ _ _ _ q44 h0) ⟨rfl, rfl⟩ cd_X0_changeSetting wX0_161 nm_X0_changeSetting rfl (by rw [hRm]; decide) rfl (Nat.le_of_ble_eq_true rfl) rfl (by decide) h0 dX0_perform_132 ?_
      exact r_iretH dX0_perform_135 h he
    have g5n := gNe g5 (z := 0) (by decide)
    have g9n := gNe g9 (z := 1) (by decide)
    have g16n := gNe g16 (z := 2) (by decide)
    have g23n := gNe g23 (z := 3) (by decide)
    have g30n := gNe g30 (z := 4) (by decide)
    have g37n := gNe g37 (z := 5) (by decide)
    have g41n := gNe g41 (z := 6) (by decide)
    refine r_tabOut (pc := 18) (tgt := 136) dX0_perform_18 (by omega) (by decide) ?_
    refine r_aload_n (pc := 136) dX0_perform_136 rfl rfl ?_
    refine r_iload_n (pc := 137) dX0_perform_137 rfl rfl ?_
    obtain ⟨m45, x46, q47, h⟩ := gCl_some h
    refine r_callV (kd := 0) (pc := 138) [.int _] (tX0_deliver _ _ _ hF _ _ _ _ q47 h0) ⟨rfl, rfl⟩ cd_X0_deliver wX0_164 nm_X0_deliver rfl (by rw [hRm]; decide) rfl (Nat.le_of_ble_eq_true rfl) rfl (by decide) h0 dX0_perform_138 ?_
    exact r_iretH dX0_perform_141 h he
  · refine r_iconst (pc := 15) (v := (-1)) dX0_perform_15 (by decide) ?_
    exact r_iretH dX0_perform_16 h he
set_option maxHeartbeats 4000000 in
set_option maxRecDepth 100000 in
theorem tX0_takeOrder (l : Launch) (G : gX) (u : gU) (hF : gFull u) (a0 : Nat) (p1 : Int32) (m : gM) (o : gM) (h : fX0_takeOrder a0 p1 m = some o) (h0 : gIn u a0 0 0) : gMet l G u yX0_takeOrder (.code yX0_takeOrder cX0_takeOrder 4 none) rmX0_takeOrder [.ref a0, .int p1] m o none := by
  refine gMet_of (own := RX0) (k := 2) (by decide) rfl ⟨rfl, rfl⟩ (Nat.le_of_ble_eq_true rfl) [some (.ref a0), some (.int p1), none, none] rfl (fun Y hG hu hnL hLn hRm he => ?_)
  subst hG hu hLn
  unfold fX0_takeOrder at h
  refine r_iload_n (pc := 0) dX0_takeOrder_0 rfl rfl ?_
  refine r_istore_n (pc := 1) dX0_takeOrder_1 rfl (by rw [hnL]; decide) rfl ?_
  refine r_iconst (pc := 2) (v := 3) dX0_takeOrder_2 (by decide) ?_
  refine r_istore_n (pc := 3) dX0_takeOrder_3 rfl (by rw [hnL]; decide) rfl ?_
  have L7 : ∀ (n5 : Nat) (v8 : Int32) (v9 : Int32) (m10 : gM), fX0_takeOrder_L4 a0 n5 v8 v9 m10 = some o → AW Y cX0_takeOrder RX0 4 [some (.ref a0), none, some (.int v8), some (.int v9)] [] m10 := by
    intro n5
    induction n5 with
    | zero =>
      intro v8 v9 m10 h
      exact absurd h (by simp [fX0_takeOrder_L4])
    | succ n5 ih6 =>
      intro v8 v9 m10 h
      rw [fX0_takeOrder_L4] at h
      refine r_iload_n (pc := 4) dX0_takeOrder_4 rfl rfl ?_
      refine r_if_lt (pc := 5) (tgt := 27) dX0_takeOrder_5 (by decide) h (fun h => ?_) (fun h => ?_)
      · exact r_vretH dX0_takeOrder_27 h he
      · refine r_aload_n (pc := 8) dX0_takeOrder_8 rfl rfl ?_
        refine fX0_21 (pc := 9) hF dX0_takeOrder_9 h0 (fun b11 => ?_)
        refine r_iload_n (pc := 12) dX0_takeOrder_12 rfl rfl ?_
        refine r_iload_n (pc := 13) dX0_takeOrder_13 rfl rfl ?_
        refine r_iconst (pc := 14) (v := 4) dX0_takeOrder_14 (by decide) ?_
        refine r_iremc (pc := 15) dX0_takeOrder_15 (by decide) ?_
        refine r_iast (pc := 16) dX0_takeOrder_16 b11 h (fun m12 h => ?_)
        refine r_iload_n (pc := 17) dX0_takeOrder_17 rfl rfl ?_
        refine r_iconst (pc := 18) (v := 4) dX0_takeOrder_18 (by decide) ?_
        refine r_idivc (pc := 19) dX0_takeOrder_19 (by decide) ?_
        refine r_istore_nL (pc := 20) dX0_takeOrder_20 rfl (by rw [hnL]; decide) h (fun x13 h => ?_)
        refine r_iinc (pc := 21) (d := (-1)) dX0_takeOrder_21 rfl (by decide) (by rw [hnL]; decide) h (fun x14 h => ?_)
        refine r_goto (pc := 24) (tgt := 4) dX0_takeOrder_24 (by decide) ?_
        exact r_mask [true, false, true, true] rfl (ih6 _ _ _ h)
  exact r_mask [true, false, true, true] rfl (L7 _ _ _ _ h)
set_option maxHeartbeats 4000000 in
set_option maxRecDepth 100000 in
theorem tX0_orderAsNumber (l : Launch) (G : gX) (u : gU) (hF : gFull u) (a0 : Nat) (m : gM) (o : gM × Int32) (h : fX0_orderAsNumber a0 m = some o) (h0 : gIn u a0 0 0) : gMet l G u yX0_orderAsNumber (.code yX0_orderAsNumber cX0_orderAsNumber 3 (some .int)) rmX0_orderAsNumber [.ref a0] m o.1 (some (.int o.2)) := by
  refine gMet_of (own := RX0) (k := 2) (by decide) rfl ⟨rfl, rfl⟩ (Nat.le_of_ble_eq_true rfl) [some (.ref a0), none, none] rfl (fun Y hG hu hnL hLn hRm he => ?_)
  subst hG hu hLn
  unfold fX0_orderAsNumber at h
  refine r_iconst (pc := 0) (v := 0) dX0_orderAsNumber_0 (by decide) ?_
  refine r_istore_n (pc := 1) dX0_orderAsNumber_1 rfl (by rw [hnL]; decide) rfl ?_
  refine r_iconst (pc := 2) (v := 0) dX0_orderAsNumber_2 (by decide) ?_
  refine r_istore_n (pc := 3) dX0_orderAsNumber_3 rfl (by rw [hnL]; decide) rfl ?_
  have L7 : ∀ (n5 : Nat) (v8 : Int32) (v9 : Int32) (m10 : gM), fX0_orderAsNumber_L4 a0 n5 v8 v9 m10 = some o → AW Y cX0_orderAsNumber RX0 4 [some (.ref a0), some (.int v8), some (.int v9)] [] m10 := by
    intro n5
    induction n5 with
    | zero =>
      intro v8 v9 m10 h
      exact absurd h (by simp [fX0_orderAsNumber_L4])
    | succ n5 ih6 =>
      intro v8 v9 m10 h
      rw [fX0_orderAsNumber_L4] at h
      refine r_iload_n (pc := 4) dX0_orderAsNumber_4 rfl rfl ?_
      refine r_iconst (pc := 5) (v := 4) dX0_orderAsNumber_5 (by decide) ?_
      refine r_icmp_ge (pc := 6) (tgt := 27) dX0_orderAsNumber_6 (by decide) h (fun h => ?_) (fun h => ?_)
      · refine r_iload_n (pc := 27) dX0_orderAsNumber_27 rfl rfl ?_
        exact r_iretH dX0_orderAsNumber_28 h he
      · refine r_iload_n (pc := 9) dX0_orderAsNumber_9 rfl rfl ?_
        refine r_bipush (pc := 10) (v := 10) dX0_orderAsNumber_10 (by decide) ?_
        refine r_imul (pc := 12) dX0_orderAsNumber_12 ?_
        refine r_aload_n (pc := 13) dX0_orderAsNumber_13 rfl rfl ?_
        refine fX0_21 (pc := 14) hF dX0_orderAsNumber_14 h0 (fun b11 => ?_)
        refine r_iload_n (pc := 17) dX0_orderAsNumber_17 rfl rfl ?_
        refine r_iald (pc := 18) dX0_orderAsNumber_18 b11 h (fun x12 h => ?_)
        refine r_iadd (pc := 19) dX0_orderAsNumber_19 ?_
        refine r_istore_nL (pc := 20) dX0_orderAsNumber_20 rfl (by rw [hnL]; decide) h (fun x13 h => ?_)
        refine r_iinc (pc := 21) (d := 1) dX0_orderAsNumber_21 rfl (by decide) (by rw [hnL]; decide) h (fun x14 h => ?_)
        refine r_goto (pc := 24) (tgt := 4) dX0_orderAsNumber_24 (by decide) ?_
        exact r_mask [true, true, true] rfl (ih6 _ _ _ h)
  exact r_mask [true, true, true] rfl (L7 _ _ _ _ h)
set_option maxHeartbeats 4000000 in
set_option maxRecDepth 100000 in
theorem tX0_leftBefore (l : Launch) (G : gX) (u : gU) (hF : gFull u) (a0 : Nat) (p1 : Int32) (m : gM) (o : gM × Int32) (h : fX0_leftBefore a0 p1 m = some o) (h0 : gIn u a0 0 0) : gMet l G u yX0_leftBefore (.code yX0_leftBefore cX0_leftBefore 5 (some .int)) rmX0_leftBefore [.ref a0, .int p1] m o.1 (some (.int o.2)) := by
  refine gMet_of (own := RX0) (k := 3) (by decide) rfl ⟨rfl, rfl⟩ (Nat.le_of_ble_eq_true rfl) [some (.ref a0), some (.int p1), none, none, none] rfl (fun Y hG hu hnL hLn hRm he => ?_)
  subst hG hu hLn
  unfold fX0_leftBefore at h
  refine r_aload_n (pc := 0) dX0_leftBefore_0 rfl rfl ?_
  obtain ⟨m1, q3, h⟩ := gCv_some h
  refine r_callV (kd := 0) (pc := 1) [] (tX0_planVisits _ _ _ hF _ _ _ q3 h0) ⟨rfl, rfl⟩ cd_X0_planVisits wX0_174 nm_X0_planVisits rfl (by rw [hRm]; decide) rfl (Nat.le_of_ble_eq_true rfl) rfl (by decide) h0 dX0_leftBefore_1 ?_
  refine r_aload_n (pc := 4) dX0_leftBefore_4 rfl rfl ?_
  refine r_aload_n (pc := 5) dX0_leftBefore_5 rfl rfl ?_
  obtain ⟨m4, x5, q6, h⟩ := gCl_some h
  refine r_callV (kd := 0) (pc := 6) [] (tX0_dueToAll _ _ _ hF _ _ _ q6 h0) ⟨rfl, rfl⟩ cd_X0_dueToAll wX0_71 nm_X0_dueToAll rfl (by rw [hRm]; decide) rfl (Nat.le_of_ble_eq_true rfl) rfl (by decide) h0 dX0_leftBefore_6 ?_
  obtain ⟨m7, x8, q9, h⟩ := gCl_some h
  refine r_callV (kd := 0) (pc := 9) [.int _] (tX0_loavesFor _ _ _ hF _ _ _ _ q9 h0) ⟨rfl, rfl⟩ cd_X0_loavesFor wX0_177 nm_X0_loavesFor rfl (by rw [hRm]; decide) rfl (Nat.le_of_ble_eq_true rfl) rfl (by decide) h0 dX0_leftBefore_9 ?_
  refine r_istore_n (pc := 12) dX0_leftBefore_12 rfl (by rw [hnL]; decide) rfl ?_
  refine r_iconst (pc := 13) (v := 0) dX0_leftBefore_13 (by decide) ?_
  refine r_istore_n (pc := 14) dX0_leftBefore_14 rfl (by rw [hnL]; decide) rfl ?_
  have L34 : ∀ (n32 : Nat) (v35 : Int32) (v36 : Int32) (m37 : gM), fX0_leftBefore_L15 a0 p1 n32 v35 v36 m37 = some o → AW Y cX0_leftBefore RX0 15 [some (.ref a0), some (.int p1), some (.int v35), some (.int v36), none] [] m37 := by
    intro n32
    induction n32 with
    | zero =>
      intro v35 v36 m37 h
      exact absurd h (by simp [fX0_leftBefore_L15])
    | succ n32 ih33 =>
      intro v35 v36 m37 h
      rw [fX0_leftBefore_L15] at h
      refine r_iload_n (pc := 15) dX0_leftBefore_15 rfl rfl ?_
      refine r_aload_n (pc := 16) dX0_leftBefore_16 rfl rfl ?_
      refine fX0_35 (pc := 17) dX0_leftBefore_17 h0 h (fun x38 h => ?_)
      refine r_icmp_ge (pc := 20) (tgt := 77) dX0_leftBefore_20 (by decide) h (fun h => ?_) (fun h => ?_)
      · refine r_iload_n (pc := 77) dX0_leftBefore_77 rfl rfl ?_
        exact r_iretH dX0_leftBefore_78 h he
      · refine r_aload_n (pc := 23) dX0_leftBefore_23 rfl rfl ?_
        refine fX0_28 (pc := 24) hF dX0_leftBefore_24 h0 (fun b39 => ?_)
        refine r_iload_n (pc := 27) dX0_leftBefore_27 rfl rfl ?_
        refine r_iald (pc := 28) dX0_leftBefore_28 b39 h (fun x40 h => ?_)
        refine r_iload_n (pc := 29) dX0_leftBefore_29 rfl rfl ?_
        refine r_icmp_eq (pc := 30) (tgt := 77) dX0_leftBefore_30 (by decide) h (fun h => ?_) (fun h => ?_)
        · refine r_iload_n (pc := 77) dX0_leftBefore_77 rfl rfl ?_
          exact r_iretH dX0_leftBefore_78 h he
        · refine r_aload_n (pc := 33) dX0_leftBefore_33 rfl rfl ?_
          refine fX0_11 (pc := 34) hF dX0_leftBefore_34 h0 (fun b41 => ?_)
          refine r_aload_n (pc := 37) dX0_leftBefore_37 rfl rfl ?_
          refine fX0_28 (pc := 38) hF dX0_leftBefore_38 h0 (fun b42 => ?_)
          refine r_iload_n (pc := 41) dX0_leftBefore_41 rfl rfl ?_
          refine r_iald (pc := 42) dX0_leftBefore_42 b42 h (fun x43 h => ?_)
          refine r_cust (pc := 43) hF dX0_leftBefore_43 b41 h (fun c44 b45 h => ?_)
          refine r_astore (pc := 44) dX0_leftBefore_44 (by rw [hnL]; decide) rfl ?_
          refine r_aload_n (pc := 46) dX0_leftBefore_46 rfl rfl ?_
          refine r_aload (pc := 47) dX0_leftBefore_47 rfl ?_
          obtain ⟨m46, x47, q48, h⟩ := gCl_some h
          refine r_callV (kd := 0) (pc := 49) [.ref _] (tX0_isReached _ _ _ hF _ _ _ _ q48 h0 b45) ⟨rfl, rfl⟩ cd_X0_isReached wX0_194 nm_X0_isReached rfl (by rw [hRm]; decide) rfl (Nat.le_of_ble_eq_true rfl) rfl (by decide) h0 dX0_leftBefore_49 ?_
          refine r_jnK h (fun (k51 : Int32 → gM → Option (gM × Int32)) => ∀ (x49 : Int32) (m50 : gM), k51 x49 m50 = some o → AW Y cX0_leftBefore RX0 71 [some (.ref a0), some (.int p1), some (.int x49), some (.int v36), none] [] m50) (fun x49 m50 h => ?_) (fun k51 hJ52 h => ?_)
          · refine r_iinc (pc := 71) (d := 1) dX0_leftBefore_71 rfl (by decide) (by rw [hnL]; decide) h (fun x53 h => ?_)
            refine r_goto (pc := 74) (tgt := 15) dX0_leftBefore_74 (by decide) ?_
            exact r_mask [true, true, true, true, false] rfl (ih33 _ _ _ h)
          · refine r_if_eq (pc := 52) (tgt := 71) dX0_leftBefore_52 (by decide) h (fun h => ?_) (fun h => ?_)
            · exact r_mask [true, true, true, true, false] rfl (hJ52 _ _ h)
            · refine r_iload_n (pc := 55) dX0_leftBefore_55 rfl rfl ?_
              refine r_iload_n (pc := 56) dX0_leftBefore_56 rfl rfl ?_
              refine r_aload (pc := 57) dX0_leftBefore_57 rfl ?_
              refine r_aload_n (pc := 59) dX0_leftBefore_59 rfl rfl ?_
              refine fX0_39 (pc := 60) dX0_leftBefore_60 h0 h (fun x54 h => ?_)
              obtain ⟨m55, x56, q57, h⟩ := gCl_some h
              refine r_callVN (kd := 1) (pc := 63) [.int _] (tX1_dueOn _ _ _ hF _ _ _ _ q57 b45) ⟨rfl, rfl⟩ cd_X1_dueOn wX0_78 nm_X1_dueOn rfl (by rw [hRm]; decide) rfl (Nat.le_of_ble_eq_true rfl) rfl (by decide) b45 dX0_leftBefore_63 ?_
              refine r_mmin (pc := 66) dX0_leftBefore_66 (i := 189) mwX0_189 (by rw [hRm]; decide) (Nat.le_of_ble_eq_true rfl) h (fun x58 h => ?_)
              refine r_isub (pc := 69) dX0_leftBefore_69 ?_
              refine r_istore_nL (pc := 70) dX0_leftBefore_70 rfl (by rw [hnL]; decide) h (fun x59 h => ?_)
              exact r_mask [true, true, true, true, false] rfl (hJ52 _ _ h)
  exact r_mask [true, true, true, true, false] rfl (L34 _ _ _ _ h)
set_option maxHeartbeats 4000000 in
set_option maxRecDepth 100000 in
theorem tX0_reasonFor (l : Launch) (G : gX) (u : gU) (hF : gFull u) (a0 : Nat) (p1 : Int32) (m : gM) (o : gM × Int32) (h : fX0_reasonFor a0 p1 m = some o) (h0 : gIn u a0 0 0) : gMet l G u yX0_reasonFor (.code yX0_reasonFor cX0_reasonFor 4 (some .int)) rmX0_reasonFor [.ref a0, .int p1] m o.1 (some (.int o.2)) := by
  refine gMet_of (own := RX0) (k := 2) (by decide) rfl ⟨rfl, rfl⟩ (Nat.le_of_ble_eq_true rfl) [some (.ref a0), some (.int p1), none, none] rfl (fun Y hG hu hnL hLn hRm he => ?_)
  subst hG hu hLn
  unfold fX0_reasonFor at h
  refine r_aload_n (pc := 0) dX0_reasonFor_0 rfl rfl ?_
  refine fX0_11 (pc := 1) hF dX0_reasonFor_1 h0 (fun b1 => ?_)
  refine r_iload_n (pc := 4) dX0_reasonFor_4 rfl rfl ?_
  refine r_cust (pc := 5) hF dX0_reasonFor_5 b1 h (fun c2 b3 h => ?_)
  refine r_astore_n (pc := 6) dX0_reasonFor_6 rfl (by rw [hnL]; decide) rfl ?_
  refine r_aload_n (pc := 7) dX0_reasonFor_7 rfl rfl ?_
  refine fX0_214 (pc := 8) hF dX0_reasonFor_8 b3 (fun b4 => ?_)
  refine r_aload_n (pc := 11) dX0_reasonFor_11 rfl rfl ?_
  refine fX0_39 (pc := 12) dX0_reasonFor_12 h0 h (fun x5 h => ?_)
  obtain ⟨m6, x7, q8, h⟩ := gCl_some h
  refine r_callSN (pc := 15) [.int _] (tX5_weekdayOf _ _ _ hF _ _ _ q8) ⟨rfl, rfl⟩ cd_X5_weekdayOf wX0_84 nm_X5_weekdayOf rfl (by rw [hRm]; decide) rfl (Nat.le_of_ble_eq_true rfl) dX0_reasonFor_15 ?_
  refine r_iald (pc := 18) dX0_reasonFor_18 b4 h (fun x9 h => ?_)
  refine r_if_ne (pc := 19) (tgt := 24) dX0_reasonFor_19 (by decide) h (fun h => ?_) (fun h => ?_)
  · refine r_aload_n (pc := 24) dX0_reasonFor_24 rfl rfl ?_
    refine r_aload_n (pc := 25) dX0_reasonFor_25 rfl rfl ?_
    refine fX0_39 (pc := 26) dX0_reasonFor_26 h0 h (fun x10 h => ?_)
    obtain ⟨m11, x12, q13, h⟩ := gCl_some h
    refine r_callVN (kd := 1) (pc := 29) [.int _] (tX1_isAwayOn _ _ _ hF _ _ _ _ q13 b3) ⟨rfl, rfl⟩ cd_X1_isAwayOn wX0_201 nm_X1_isAwayOn rfl (by rw [hRm]; decide) rfl (Nat.le_of_ble_eq_true rfl) rfl (by decide) b3 dX0_reasonFor_29 ?_
    refine r_if_eq (pc := 32) (tgt := 37) dX0_reasonFor_32 (by decide) h (fun h => ?_) (fun h => ?_)
    · refine r_aload_n (pc := 37) dX0_reasonFor_37 rfl rfl ?_
      refine r_aload_n (pc := 38) dX0_reasonFor_38 rfl rfl ?_
      obtain ⟨m14, x15, q16, h⟩ := gCl_some h
      refine r_callV (kd := 0) (pc := 39) [.ref _] (tX0_isReached _ _ _ hF _ _ _ _ q16 h0 b3) ⟨rfl, rfl⟩ cd_X0_isReached wX0_194 nm_X0_isReached rfl (by rw [hRm]; decide) rfl (Nat.le_of_ble_eq_true rfl) rfl (by decide) h0 dX0_reasonFor_39 ?_
      refine r_if_ne (pc := 42) (tgt := 47) dX0_reasonFor_42 (by decide) h (fun h => ?_) (fun h => ?_)
      · refine r_aload_n (pc := 47) dX0_reasonFor_47 rfl rfl ?_
        refine r_iload_n (pc := 48) dX0_reasonFor_48 rfl rfl ?_
        obtain ⟨m17, x18, q19, h⟩ := gCl_some h
        refine r_callV (kd := 0) (pc := 49) [.int _] (tX0_leftBefore _ _ _ hF _ _ _ _ q19 h0) ⟨rfl, rfl⟩ cd_X0_leftBefore wX0_217 nm_X0_leftBefore rfl (by rw [hRm]; decide) rfl (Nat.le_of_ble_eq_true rfl) rfl (by decide) h0 dX0_reasonFor_49 ?_
        refine r_istore_n (pc := 52) dX0_reasonFor_52 rfl (by rw [hnL]; decide) rfl ?_
        refine r_iload_n (pc := 53) dX0_reasonFor_53 rfl rfl ?_
        refine r_if_ne (pc := 54) (tgt := 59) dX0_reasonFor_54 (by decide) h (fun h => ?_) (fun h => ?_)
        · refine r_iload_n (pc := 59) dX0_reasonFor_59 rfl rfl ?_
          refine r_aload_n (pc := 60) dX0_reasonFor_60 rfl rfl ?_
          refine r_aload_n (pc := 61) dX0_reasonFor_61 rfl rfl ?_
          refine fX0_39 (pc := 62) dX0_reasonFor_62 h0 h (fun x20 h => ?_)
          obtain ⟨m21, x22, q23, h⟩ := gCl_some h
          refine r_callVN (kd := 1) (pc := 65) [.int _] (tX1_dueOn _ _ _ hF _ _ _ _ q23 b3) ⟨rfl, rfl⟩ cd_X1_dueOn wX0_78 nm_X1_dueOn rfl (by rw [hRm]; decide) rfl (Nat.le_of_ble_eq_true rfl) rfl (by decide) b3 dX0_reasonFor_65 ?_
          refine r_icmp_ge (pc := 68) (tgt := 75) dX0_reasonFor_68 (by decide) h (fun h => ?_) (fun h => ?_)
          · refine r_iconst (pc := 75) (v := 0) dX0_reasonFor_75 (by decide) ?_
            exact r_iretH dX0_reasonFor_76 h he
          · refine r_iconst (pc := 71) (v := 5) dX0_reasonFor_71 (by decide) ?_
            refine r_goto (pc := 72) (tgt := 76) dX0_reasonFor_72 (by decide) ?_
            exact r_iretH dX0_reasonFor_76 h he
        · refine r_iconst (pc := 57) (v := 4) dX0_reasonFor_57 (by decide) ?_
          exact r_iretH dX0_reasonFor_58 h he
      · refine r_iconst (pc := 45) (v := 3) dX0_reasonFor_45 (by decide) ?_
        exact r_iretH dX0_reasonFor_46 h he
    · refine r_iconst (pc := 35) (v := 2) dX0_reasonFor_35 (by decide) ?_
      exact r_iretH dX0_reasonFor_36 h he
  · refine r_iconst (pc := 22) (v := 1) dX0_reasonFor_22 (by decide) ?_
    exact r_iretH dX0_reasonFor_23 h he
set_option maxHeartbeats 4000000 in
set_option maxRecDepth 100000 in
theorem tX1_nextDueDay (l : Launch) (G : gX) (u : gU) (hF : gFull u) (a0 : Nat) (p1 : Int32) (m : gM) (o : gM × Int32) (h : fX1_nextDueDay a0 p1 m = some o) (h0 : gIn u a0 1 0) : gMet l G u yX1_nextDueDay (.code yX1_nextDueDay cX1_nextDueDay 3 (some .int)) rmX1_nextDueDay [.ref a0, .int p1] m o.1 (some (.int o.2)) := by
  refine gMet_of (own := RX1) (k := 1) (by decide) rfl ⟨rfl, rfl⟩ (Nat.le_of_ble_eq_true rfl) [some (.ref a0), some (.int p1), none] rfl (fun Y hG hu hnL hLn hRm he => ?_)
  subst hG hu hLn
  unfold fX1_nextDueDay at h
  refine r_iload_n (pc := 0) dX1_nextDueDay_0 rfl rfl ?_
  refine r_istore_n (pc := 1) dX1_nextDueDay_1 rfl (by rw [hnL]; decide) rfl ?_
  have L7 : ∀ (n5 : Nat) (v8 : Int32) (m9 : gM), fX1_nextDueDay_L2 a0 p1 n5 v8 m9 = some o → AW Y cX1_nextDueDay RX1 2 [some (.ref a0), some (.int p1), some (.int v8)] [] m9 := by
    intro n5
    induction n5 with
    | zero =>
      intro v8 m9 h
      exact absurd h (by simp [fX1_nextDueDay_L2])
    | succ n5 ih6 =>
      intro v8 m9 h
      rw [fX1_nextDueDay_L2] at h
      refine r_iload_n (pc := 2) dX1_nextDueDay_2 rfl rfl ?_
      refine r_iload_n (pc := 3) dX1_nextDueDay_3 rfl rfl ?_
      refine r_sipush (pc := 4) (v := 200) dX1_nextDueDay_4 (by decide) ?_
      refine r_iadd (pc := 7) dX1_nextDueDay_7 ?_
      refine r_icmp_gt (pc := 8) (tgt := 27) dX1_nextDueDay_8 (by decide) h (fun h => ?_) (fun h => ?_)
      · refine r_iconst (pc := 27) (v := (-1)) dX1_nextDueDay_27 (by decide) ?_
        exact r_iretH dX1_nextDueDay_28 h he
      · refine r_aload_n (pc := 11) dX1_nextDueDay_11 rfl rfl ?_
        refine r_iload_n (pc := 12) dX1_nextDueDay_12 rfl rfl ?_
        obtain ⟨m10, x11, q12, h⟩ := gCl_some h
        refine r_callV (kd := 1) (pc := 13) [.int _] (tX1_dueOn _ _ _ hF _ _ _ _ q12 h0) ⟨rfl, rfl⟩ cd_X1_dueOn wX1_64 nm_X1_dueOn rfl (by rw [hRm]; decide) rfl (Nat.le_of_ble_eq_true rfl) rfl (by decide) h0 dX1_nextDueDay_13 ?_
        refine r_if_le (pc := 16) (tgt := 21) dX1_nextDueDay_16 (by decide) h (fun h => ?_) (fun h => ?_)
        · refine r_iinc (pc := 21) (d := 1) dX1_nextDueDay_21 rfl (by decide) (by rw [hnL]; decide) h (fun x13 h => ?_)
          refine r_goto (pc := 24) (tgt := 2) dX1_nextDueDay_24 (by decide) ?_
          exact r_mask [true, true, true] rfl (ih6 _ _ h)
        · refine r_iload_n (pc := 19) dX1_nextDueDay_19 rfl rfl ?_
          exact r_iretH dX1_nextDueDay_20 h he
  exact r_mask [true, true, true] rfl (L7 _ _ _ h)
set_option maxHeartbeats 4000000 in
set_option maxRecDepth 100000 in
theorem tX1_dueDayByDay (l : Launch) (G : gX) (u : gU) (hF : gFull u) (a0 : Nat) (p1 : Int32) (p2 : Int32) (m : gM) (o : gM × Int32) (h : fX1_dueDayByDay a0 p1 p2 m = some o) (h0 : gIn u a0 1 0) : gMet l G u yX1_dueDayByDay (.code yX1_dueDayByDay cX1_dueDayByDay 5 (some .int)) rmX1_dueDayByDay [.ref a0, .int p1, .int p2] m o.1 (some (.int o.2)) := by
  refine gMet_of (own := RX1) (k := 2) (by decide) rfl ⟨rfl, rfl⟩ (Nat.le_of_ble_eq_true rfl) [some (.ref a0), some (.int p1), some (.int p2), none, none] rfl (fun Y hG hu hnL hLn hRm he => ?_)
  subst hG hu hLn
  unfold fX1_dueDayByDay at h
  refine r_iconst (pc := 0) (v := 0) dX1_dueDayByDay_0 (by decide) ?_
  refine r_istore_n (pc := 1) dX1_dueDayByDay_1 rfl (by rw [hnL]; decide) rfl ?_
  refine r_iload_n (pc := 2) dX1_dueDayByDay_2 rfl rfl ?_
  refine r_istore (pc := 3) dX1_dueDayByDay_3 (by rw [hnL]; decide) rfl ?_
  have L8 : ∀ (n6 : Nat) (v9 : Int32) (v10 : Int32) (m11 : gM), fX1_dueDayByDay_L5 a0 p1 p2 n6 v9 v10 m11 = some o → AW Y cX1_dueDayByDay RX1 5 [some (.ref a0), some (.int p1), some (.int p2), some (.int v9), some (.int v10)] [] m11 := by
    intro n6
    induction n6 with
    | zero =>
      intro v9 v10 m11 h
      exact absurd h (by simp [fX1_dueDayByDay_L5])
    | succ n6 ih7 =>
      intro v9 v10 m11 h
      rw [fX1_dueDayByDay_L5] at h
      refine r_iload (pc := 5) dX1_dueDayByDay_5 rfl ?_
      refine r_iload_n (pc := 7) dX1_dueDayByDay_7 rfl rfl ?_
      refine r_iload_n (pc := 8) dX1_dueDayByDay_8 rfl rfl ?_
      refine r_iadd (pc := 9) dX1_dueDayByDay_9 ?_
      refine r_icmp_ge (pc := 10) (tgt := 28) dX1_dueDayByDay_10 (by decide) h (fun h => ?_) (fun h => ?_)
      · refine r_iload_n (pc := 28) dX1_dueDayByDay_28 rfl rfl ?_
        exact r_iretH dX1_dueDayByDay_29 h he
      · refine r_iload_n (pc := 13) dX1_dueDayByDay_13 rfl rfl ?_
        refine r_aload_n (pc := 14) dX1_dueDayByDay_14 rfl rfl ?_
        refine r_iload (pc := 15) dX1_dueDayByDay_15 rfl ?_
        obtain ⟨m12, x13, q14, h⟩ := gCl_some h
        refine r_callV (kd := 1) (pc := 17) [.int _] (tX1_dueOn _ _ _ hF _ _ _ _ q14 h0) ⟨rfl, rfl⟩ cd_X1_dueOn wX1_64 nm_X1_dueOn rfl (by rw [hRm]; decide) rfl (Nat.le_of_ble_eq_true rfl) rfl (by decide) h0 dX1_dueDayByDay_17 ?_
        refine r_iadd (pc := 20) dX1_dueDayByDay_20 ?_
        refine r_istore_nL (pc := 21) dX1_dueDayByDay_21 rfl (by rw [hnL]; decide) h (fun x15 h => ?_)
        refine r_iinc (pc := 22) (d := 1) dX1_dueDayByDay_22 rfl (by decide) (by rw [hnL]; decide) h (fun x16 h => ?_)
        refine r_goto (pc := 25) (tgt := 5) dX1_dueDayByDay_25 (by decide) ?_
        exact r_mask [true, true, true, true, true] rfl (ih7 _ _ _ h)
  exact r_mask [true, true, true, true, true] rfl (L8 _ _ _ _ h)
set_option maxHeartbeats 4000000 in
set_option maxRecDepth 100000 in
theorem tX1_orderedInHolidays (l : Launch) (G : gX) (u : gU) (hF : gFull u) (a0 : Nat) (p1 : Int32) (p2 : Int32) (m : gM) (o : gM × Int32) (h : fX1_orderedInHolidays a0 p1 p2 m = some o) (h0 : gIn u a0 1 0) : gMet l G u yX1_orderedInHolidays (.code yX1_orderedInHolidays cX1_orderedInHolidays 7 (some .int)) rmX1_orderedInHolidays [.ref a0, .int p1, .int p2] m o.1 (some (.int o.2)) := by
  refine gMet_of (own := RX1) (k := 4) (by decide) rfl ⟨rfl, rfl⟩ (Nat.le_of_ble_eq_true rfl) [some (.ref a0), some (.int p1), some (.int p2), none, none, none, none] rfl (fun Y hG hu hnL hLn hRm he => ?_)
  subst hG hu hLn
  unfold fX1_orderedInHolidays at h
  refine r_iconst (pc := 0) (v := 0) dX1_orderedInHolidays_0 (by decide) ?_
  refine r_istore_n (pc := 1) dX1_orderedInHolidays_1 rfl (by rw [hnL]; decide) rfl ?_
  refine r_iconst (pc := 2) (v := 0) dX1_orderedInHolidays_2 (by decide) ?_
  refine r_istore (pc := 3) dX1_orderedInHolidays_3 (by rw [hnL]; decide) rfl ?_
  have L46 : ∀ (n44 : Nat) (v47 : Int32) (v48 : Int32) (m49 : gM), fX1_orderedInHolidays_L5 a0 p1 p2 n44 v47 v48 m49 = some o → AW Y cX1_orderedInHolidays RX1 5 [some (.ref a0), some (.int p1), some (.int p2), some (.int v47), some (.int v48), none, none] [] m49 := by
    intro n44
    induction n44 with
    | zero =>
      intro v47 v48 m49 h
      exact absurd h (by simp [fX1_orderedInHolidays_L5])
    | succ n44 ih45 =>
      intro v47 v48 m49 h
      rw [fX1_orderedInHolidays_L5] at h
      refine r_iload (pc := 5) dX1_orderedInHolidays_5 rfl ?_
      refine r_aload_n (pc := 7) dX1_orderedInHolidays_7 rfl rfl ?_
      refine fX1_43 (pc := 8) dX1_orderedInHolidays_8 h0 h (fun x50 h => ?_)
      refine r_icmp_ge (pc := 11) (tgt := 83) dX1_orderedInHolidays_11 (by decide) h (fun h => ?_) (fun h => ?_)
      · refine r_iload_n (pc := 83) dX1_orderedInHolidays_83 rfl rfl ?_
        exact r_iretH dX1_orderedInHolidays_84 h he
      · refine r_iload_n (pc := 14) dX1_orderedInHolidays_14 rfl rfl ?_
        refine r_aload_n (pc := 15) dX1_orderedInHolidays_15 rfl rfl ?_
        refine fX1_18 (pc := 16) hF dX1_orderedInHolidays_16 h0 (fun b51 => ?_)
        refine r_iload (pc := 19) dX1_orderedInHolidays_19 rfl ?_
        refine r_iald (pc := 21) dX1_orderedInHolidays_21 b51 h (fun x52 h => ?_)
        refine r_mmin (pc := 22) dX1_orderedInHolidays_22 (i := 71) mwX1_71 (by rw [hRm]; decide) (Nat.le_of_ble_eq_true rfl) h (fun x53 h => ?_)
        refine r_istore (pc := 25) dX1_orderedInHolidays_25 (by rw [hnL]; decide) rfl ?_
        refine r_iload_n (pc := 27) dX1_orderedInHolidays_27 rfl rfl ?_
        refine r_aload_n (pc := 28) dX1_orderedInHolidays_28 rfl rfl ?_
        refine fX1_15 (pc := 29) hF dX1_orderedInHolidays_29 h0 (fun b54 => ?_)
        refine r_iload (pc := 32) dX1_orderedInHolidays_32 rfl ?_
        refine r_iald (pc := 34) dX1_orderedInHolidays_34 b54 h (fun x55 h => ?_)
        refine r_mmax (pc := 35) dX1_orderedInHolidays_35 (i := 76) mwX1_76 (by rw [hRm]; decide) (Nat.le_of_ble_eq_true rfl) h (fun x56 h => ?_)
        refine r_istore (pc := 38) dX1_orderedInHolidays_38 (by rw [hnL]; decide) rfl ?_
        have L59 : ∀ (n57 : Nat) (v60 : Int32) (v61 : Int32) (m62 : gM), fX1_orderedInHolidays_L40 a0 p1 p2 v48 x53 (fX1_orderedInHolidays_L5 a0 p1 p2 n44) n57 v60 v61 m62 = some o → AW Y cX1_orderedInHolidays RX1 40 [some (.ref a0), some (.int p1), some (.int p2), some (.int v60), some (.int v48), some (.int x53), some (.int v61)] [] m62 := by
          intro n57
          induction n57 with
          | zero =>
            intro v60 v61 m62 h
            exact absurd h (by simp [fX1_orderedInHolidays_L40])
          | succ n57 ih58 =>
            intro v60 v61 m62 h
            rw [fX1_orderedInHolidays_L40] at h
            refine r_iload (pc := 40) dX1_orderedInHolidays_40 rfl ?_
            refine r_iload (pc := 42) dX1_orderedInHolidays_42 rfl ?_
            refine r_icmp_gt (pc := 44) (tgt := 77) dX1_orderedInHolidays_44 (by decide) h (fun h => ?_) (fun h => ?_)
            · refine r_iinc (pc := 77) (d := 1) dX1_orderedInHolidays_77 rfl (by decide) (by rw [hnL]; decide) h (fun x63 h => ?_)
              refine r_goto (pc := 80) (tgt := 5) dX1_orderedInHolidays_80 (by decide) ?_
              exact r_mask [true, true, true, true, true, false, false] rfl (ih45 _ _ _ h)
            · refine r_aload_n (pc := 47) dX1_orderedInHolidays_47 rfl rfl ?_
              refine r_iload (pc := 48) dX1_orderedInHolidays_48 rfl ?_
              refine r_iload (pc := 50) dX1_orderedInHolidays_50 rfl ?_
              obtain ⟨m64, x65, q66, h⟩ := gCl_some h
              refine r_callV (kd := 1) (pc := 52) [.int _, .int _] (tX1_isInFirstHolidays _ _ _ hF _ _ _ _ _ q66 h0) ⟨rfl, rfl⟩ cd_X1_isInFirstHolidays wX1_56 nm_X1_isInFirstHolidays rfl (by rw [hRm]; decide) rfl (Nat.le_of_ble_eq_true rfl) rfl (by decide) h0 dX1_orderedInHolidays_52 ?_
              refine r_jnK h (fun (k69 : Int32 → gM → Option (gM × Int32)) => ∀ (x67 : Int32) (m68 : gM), k69 x67 m68 = some o → AW Y cX1_orderedInHolidays RX1 71 [some (.ref a0), some (.int p1), some (.int p2), some (.int x67), some (.int v48), some (.int x53), some (.int v61)] [] m68) (fun x67 m68 h => ?_) (fun k69 hJ70 h => ?_)
              · refine r_iinc (pc := 71) (d := 1) dX1_orderedInHolidays_71 rfl (by decide) (by rw [hnL]; decide) h (fun x71 h => ?_)
                refine r_goto (pc := 74) (tgt := 40) dX1_orderedInHolidays_74 (by decide) ?_
                exact r_mask [true, true, true, true, true, true, true] rfl (ih58 _ _ _ h)
              · refine r_if_ne (pc := 55) (tgt := 71) dX1_orderedInHolidays_55 (by decide) h (fun h => ?_) (fun h => ?_)
                · exact r_mask [true, true, true, true, true, true, true] rfl (hJ70 _ _ h)
                · refine r_iload_n (pc := 58) dX1_orderedInHolidays_58 rfl rfl ?_
                  refine r_aload_n (pc := 59) dX1_orderedInHolidays_59 rfl rfl ?_
                  refine fX1_9 (pc := 60) hF dX1_orderedInHolidays_60 h0 (fun b72 => ?_)
                  refine r_iload (pc := 63) dX1_orderedInHolidays_63 rfl ?_
                  obtain ⟨m73, x74, q75, h⟩ := gCl_some h
                  refine r_callSN (pc := 65) [.int _] (tX5_weekdayOf _ _ _ hF _ _ _ q75) ⟨rfl, rfl⟩ cd_X5_weekdayOf wX1_60 nm_X5_weekdayOf rfl (by rw [hRm]; decide) rfl (Nat.le_of_ble_eq_true rfl) dX1_orderedInHolidays_65 ?_
                  refine r_iald (pc := 68) dX1_orderedInHolidays_68 b72 h (fun x76 h => ?_)
                  refine r_iadd (pc := 69) dX1_orderedInHolidays_69 ?_
                  refine r_istore_nL (pc := 70) dX1_orderedInHolidays_70 rfl (by rw [hnL]; decide) h (fun x77 h => ?_)
                  exact r_mask [true, true, true, true, true, true, true] rfl (hJ70 _ _ h)
        exact r_mask [true, true, true, true, true, true, true] rfl (L59 _ _ _ _ h)
  exact r_mask [true, true, true, true, true, false, false] rfl (L46 _ _ _ _ h)
set_option maxHeartbeats 4000000 in
set_option maxRecDepth 100000 in
theorem tX1_dueByWeeks (l : Launch) (G : gX) (u : gU) (hF : gFull u) (a0 : Nat) (p1 : Int32) (p2 : Int32) (m : gM) (o : gM × Int32) (h : fX1_dueByWeeks a0 p1 p2 m = some o) (h0 : gIn u a0 1 0) : gMet l G u yX1_dueByWeeks (.code yX1_dueByWeeks cX1_dueByWeeks 6 (some .int)) rmX1_dueByWeeks [.ref a0, .int p1, .int p2] m o.1 (some (.int o.2)) := by
  refine gMet_of (own := RX1) (k := 3) (by decide) rfl ⟨rfl, rfl⟩ (Nat.le_of_ble_eq_true rfl) [some (.ref a0), some (.int p1), some (.int p2), none, none, none] rfl (fun Y hG hu hnL hLn hRm he => ?_)
  subst hG hu hLn
  unfold fX1_dueByWeeks at h
  refine r_iload_n (pc := 0) dX1_dueByWeeks_0 rfl rfl ?_
  refine r_bipush (pc := 1) (v := 7) dX1_dueByWeeks_1 (by decide) ?_
  refine r_idivc (pc := 3) dX1_dueByWeeks_3 (by decide) ?_
  refine r_istore_nL (pc := 4) dX1_dueByWeeks_4 rfl (by rw [hnL]; decide) h (fun x1 h => ?_)
  refine r_iload_n (pc := 5) dX1_dueByWeeks_5 rfl rfl ?_
  refine r_aload_n (pc := 6) dX1_dueByWeeks_6 rfl rfl ?_
  obtain ⟨m2, x3, q4, h⟩ := gCl_some h
  refine r_callV (kd := 1) (pc := 7) [] (tX1_loavesAWeek _ _ _ hF _ _ _ q4 h0) ⟨rfl, rfl⟩ cd_X1_loavesAWeek wX1_52 nm_X1_loavesAWeek rfl (by rw [hRm]; decide) rfl (Nat.le_of_ble_eq_true rfl) rfl (by decide) h0 dX1_dueByWeeks_7 ?_
  refine r_imul (pc := 10) dX1_dueByWeeks_10 ?_
  refine r_istoreL (pc := 11) dX1_dueByWeeks_11 (by rw [hnL]; decide) h (fun x5 h => ?_)
  refine r_iload_n (pc := 13) dX1_dueByWeeks_13 rfl rfl ?_
  refine r_iload_n (pc := 14) dX1_dueByWeeks_14 rfl rfl ?_
  refine r_bipush (pc := 15) (v := 7) dX1_dueByWeeks_15 (by decide) ?_
  refine r_imul (pc := 17) dX1_dueByWeeks_17 ?_
  refine r_iadd (pc := 18) dX1_dueByWeeks_18 ?_
  refine r_istoreL (pc := 19) dX1_dueByWeeks_19 (by rw [hnL]; decide) h (fun x6 h => ?_)
  have L19 : ∀ (n17 : Nat) (v20 : Int32) (v21 : Int32) (m22 : gM), fX1_dueByWeeks_L21 a0 p1 p2 n17 v20 v21 m22 = some o → AW Y cX1_dueByWeeks RX1 21 [some (.ref a0), some (.int p1), some (.int p2), none, some (.int v20), some (.int v21)] [] m22 := by
    intro n17
    induction n17 with
    | zero =>
      intro v20 v21 m22 h
      exact absurd h (by simp [fX1_dueByWeeks_L21])
    | succ n17 ih18 =>
      intro v20 v21 m22 h
      rw [fX1_dueByWeeks_L21] at h
      refine r_iload (pc := 21) dX1_dueByWeeks_21 rfl ?_
      refine r_iload_n (pc := 23) dX1_dueByWeeks_23 rfl rfl ?_
      refine r_iload_n (pc := 24) dX1_dueByWeeks_24 rfl rfl ?_
      refine r_iadd (pc := 25) dX1_dueByWeeks_25 ?_
      refine r_icmp_ge (pc := 26) (tgt := 50) dX1_dueByWeeks_26 (by decide) h (fun h => ?_) (fun h => ?_)
      · refine r_iload (pc := 50) dX1_dueByWeeks_50 rfl ?_
        refine r_aload_n (pc := 52) dX1_dueByWeeks_52 rfl rfl ?_
        refine r_iload_n (pc := 53) dX1_dueByWeeks_53 rfl rfl ?_
        refine r_iload_n (pc := 54) dX1_dueByWeeks_54 rfl rfl ?_
        refine r_iload_n (pc := 55) dX1_dueByWeeks_55 rfl rfl ?_
        refine r_iadd (pc := 56) dX1_dueByWeeks_56 ?_
        refine r_iconst (pc := 57) (v := 1) dX1_dueByWeeks_57 (by decide) ?_
        refine r_isub (pc := 58) dX1_dueByWeeks_58 ?_
        obtain ⟨m23, x24, q25, h⟩ := gCl_some h
        refine r_callV (kd := 1) (pc := 59) [.int _, .int _] (tX1_orderedInHolidays _ _ _ hF _ _ _ _ _ q25 h0) ⟨rfl, rfl⟩ cd_X1_orderedInHolidays wX1_67 nm_X1_orderedInHolidays rfl (by rw [hRm]; decide) rfl (Nat.le_of_ble_eq_true rfl) rfl (by decide) h0 dX1_dueByWeeks_59 ?_
        refine r_isub (pc := 62) dX1_dueByWeeks_62 ?_
        exact r_iretH dX1_dueByWeeks_63 h he
      · refine r_iload (pc := 29) dX1_dueByWeeks_29 rfl ?_
        refine r_aload_n (pc := 31) dX1_dueByWeeks_31 rfl rfl ?_
        refine fX1_9 (pc := 32) hF dX1_dueByWeeks_32 h0 (fun b26 => ?_)
        refine r_iload (pc := 35) dX1_dueByWeeks_35 rfl ?_
        obtain ⟨m27, x28, q29, h⟩ := gCl_some h
        refine r_callSN (pc := 37) [.int _] (tX5_weekdayOf _ _ _ hF _ _ _ q29) ⟨rfl, rfl⟩ cd_X5_weekdayOf wX1_60 nm_X5_weekdayOf rfl (by rw [hRm]; decide) rfl (Nat.le_of_ble_eq_true rfl) dX1_dueByWeeks_37 ?_
        refine r_iald (pc := 40) dX1_dueByWeeks_40 b26 h (fun x30 h => ?_)
        refine r_iadd (pc := 41) dX1_dueByWeeks_41 ?_
        refine r_istoreL (pc := 42) dX1_dueByWeeks_42 (by rw [hnL]; decide) h (fun x31 h => ?_)
        refine r_iinc (pc := 44) (d := 1) dX1_dueByWeeks_44 rfl (by decide) (by rw [hnL]; decide) h (fun x32 h => ?_)
        refine r_goto (pc := 47) (tgt := 21) dX1_dueByWeeks_47 (by decide) ?_
        exact r_mask [true, true, true, false, true, true] rfl (ih18 _ _ _ h)
  exact r_mask [true, true, true, false, true, true] rfl (L19 _ _ _ _ h)
set_option maxHeartbeats 4000000 in
set_option maxRecDepth 100000 in
theorem tX2_forgetAll (l : Launch) (G : gX) (u : gU) (hF : gFull u)  (m : gM) (o : gM) (h : fX2_forgetAll  m = some o)  : gMet l G u yX2_forgetAll (.code yX2_forgetAll cX2_forgetAll 1 none) rmX2_forgetAll [.ref 744] m o none := by
  refine gMet_of (own := RX2) (k := 0) (by decide) rfl ⟨rfl, rfl⟩ (Nat.le_of_ble_eq_true rfl) [some (.ref 744)] rfl (fun Y hG hu hnL hLn hRm he => ?_)
  subst hG hu hLn
  unfold fX2_forgetAll at h
  refine r_aload_n (pc := 0) dX2_forgetAll_0 rfl rfl ?_
  refine r_iconst (pc := 1) (v := 0) dX2_forgetAll_1 (by decide) ?_
  refine fX2_18p (pc := 2) dX2_forgetAll_2 (gO2 hF) h (fun m1 h => ?_)
  refine r_aload_n (pc := 5) dX2_forgetAll_5 rfl rfl ?_
  refine r_iconst (pc := 6) (v := 0) dX2_forgetAll_6 (by decide) ?_
  refine fX2_22p (pc := 7) dX2_forgetAll_7 (gO2 hF) h (fun m2 h => ?_)
  exact r_vretH dX2_forgetAll_10 h he
set_option maxHeartbeats 4000000 in
set_option maxRecDepth 100000 in
theorem tX2_keep (l : Launch) (G : gX) (u : gU) (hF : gFull u) (a1 : Nat) (m : gM) (o : gM) (h : fX2_keep a1 m = some o) (h1 : gIn u a1 0 0) : gMet l G u yX2_keep (.code yX2_keep cX2_keep 2 none) rmX2_keep [.ref 744, .ref a1] m o none := by
  refine gMet_of (own := RX2) (k := 0) (by decide) rfl ⟨rfl, rfl⟩ (Nat.le_of_ble_eq_true rfl) [some (.ref 744), some (.ref a1)] rfl (fun Y hG hu hnL hLn hRm he => ?_)
  subst hG hu hLn
  unfold fX2_keep at h
  refine r_aload_n (pc := 0) dX2_keep_0 rfl rfl ?_
  refine fX2_11 (pc := 1) hF dX2_keep_1 (fun b1 => ?_)
  refine r_aload_n (pc := 4) dX2_keep_4 rfl rfl ?_
  refine fX2_22 (pc := 5) dX2_keep_5 (gO2 hF) h (fun x2 h => ?_)
  refine r_states (pc := 8) hF dX2_keep_8 b1 h (fun c3 b4 h => ?_)
  refine r_aload_n (pc := 9) dX2_keep_9 rfl rfl ?_
  obtain ⟨m5, q7, h⟩ := gCv_some h
  refine r_callVN (kd := 0) (pc := 10) [.ref _] (tX0_copyFrom _ _ _ hF _ _ _ _ q7 b4 h1) ⟨rfl, rfl⟩ cd_X0_copyFrom wX2_25 nm_X0_copyFrom rfl (by rw [hRm]; decide) rfl (Nat.le_of_ble_eq_true rfl) rfl (by decide) b4 dX2_keep_10 ?_
  refine r_aload_n (pc := 13) dX2_keep_13 rfl rfl ?_
  refine r_aload_n (pc := 14) dX2_keep_14 rfl rfl ?_
  refine fX2_22 (pc := 15) dX2_keep_15 (gO2 hF) h (fun x8 h => ?_)
  refine r_iconst (pc := 18) (v := 1) dX2_keep_18 (by decide) ?_
  refine r_iadd (pc := 19) dX2_keep_19 ?_
  refine r_bipush (pc := 20) (v := 14) dX2_keep_20 (by decide) ?_
  refine r_iremc (pc := 22) dX2_keep_22 (by decide) ?_
  refine fX2_22p (pc := 23) dX2_keep_23 (gO2 hF) h (fun m9 h => ?_)
  refine r_aload_n (pc := 26) dX2_keep_26 rfl rfl ?_
  refine r_aload_n (pc := 27) dX2_keep_27 rfl rfl ?_
  refine fX2_18 (pc := 28) dX2_keep_28 (gO2 hF) h (fun x10 h => ?_)
  refine r_iconst (pc := 31) (v := 1) dX2_keep_31 (by decide) ?_
  refine r_iadd (pc := 32) dX2_keep_32 ?_
  refine r_bipush (pc := 33) (v := 14) dX2_keep_33 (by decide) ?_
  refine r_mmin (pc := 35) dX2_keep_35 (i := 29) mwX2_29 (by rw [hRm]; decide) (Nat.le_of_ble_eq_true rfl) h (fun x11 h => ?_)
  refine fX2_18p (pc := 38) dX2_keep_38 (gO2 hF) h (fun m12 h => ?_)
  exact r_vretH dX2_keep_41 h he
set_option maxHeartbeats 4000000 in
set_option maxRecDepth 100000 in
theorem tX2_takeBack (l : Launch) (G : gX) (u : gU) (hF : gFull u) (a1 : Nat) (m : gM) (o : gM × Int32) (h : fX2_takeBack a1 m = some o) (h1 : gIn u a1 0 0) : gMet l G u yX2_takeBack (.code yX2_takeBack cX2_takeBack 2 (some .int)) rmX2_takeBack [.ref 744, .ref a1] m o.1 (some (.int o.2)) := by
  refine gMet_of (own := RX2) (k := 0) (by decide) rfl ⟨rfl, rfl⟩ (Nat.le_of_ble_eq_true rfl) [some (.ref 744), some (.ref a1)] rfl (fun Y hG hu hnL hLn hRm he => ?_)
  subst hG hu hLn
  unfold fX2_takeBack at h
  refine r_aload_n (pc := 0) dX2_takeBack_0 rfl rfl ?_
  refine r_aload_n (pc := 1) dX2_takeBack_1 rfl rfl ?_
  refine fX2_22 (pc := 2) dX2_takeBack_2 (gO2 hF) h (fun x1 h => ?_)
  refine r_bipush (pc := 5) (v := 14) dX2_takeBack_5 (by decide) ?_
  refine r_iadd (pc := 7) dX2_takeBack_7 ?_
  refine r_iconst (pc := 8) (v := 1) dX2_takeBack_8 (by decide) ?_
  refine r_isub (pc := 9) dX2_takeBack_9 ?_
  refine r_bipush (pc := 10) (v := 14) dX2_takeBack_10 (by decide) ?_
  refine r_iremc (pc := 12) dX2_takeBack_12 (by decide) ?_
  refine fX2_22p (pc := 13) dX2_takeBack_13 (gO2 hF) h (fun m2 h => ?_)
  refine r_aload_n (pc := 16) dX2_takeBack_16 rfl rfl ?_
  refine r_aload_n (pc := 17) dX2_takeBack_17 rfl rfl ?_
  refine fX2_11 (pc := 18) hF dX2_takeBack_18 (fun b3 => ?_)
  refine r_aload_n (pc := 21) dX2_takeBack_21 rfl rfl ?_
  refine fX2_22 (pc := 22) dX2_takeBack_22 (gO2 hF) h (fun x4 h => ?_)
  refine r_states (pc := 25) hF dX2_takeBack_25 b3 h (fun c5 b6 h => ?_)
  obtain ⟨m7, q9, h⟩ := gCv_some h
  refine r_callVN (kd := 0) (pc := 26) [.ref _] (tX0_copyFrom _ _ _ hF _ _ _ _ q9 h1 b6) ⟨rfl, rfl⟩ cd_X0_copyFrom wX2_25 nm_X0_copyFrom rfl (by rw [hRm]; decide) rfl (Nat.le_of_ble_eq_true rfl) rfl (by decide) h1 dX2_takeBack_26 ?_
  refine r_aload_n (pc := 29) dX2_takeBack_29 rfl rfl ?_
  refine r_dup (pc := 30) dX2_takeBack_30 rfl ?_
  refine fX2_18 (pc := 31) dX2_takeBack_31 (gO2 hF) h (fun x10 h => ?_)
  refine r_iconst (pc := 34) (v := 1) dX2_takeBack_34 (by decide) ?_
  refine r_isub (pc := 35) dX2_takeBack_35 ?_
  refine fX2_18p (pc := 36) dX2_takeBack_36 (gO2 hF) h (fun m11 h => ?_)
  refine r_aload_n (pc := 39) dX2_takeBack_39 rfl rfl ?_
  refine fX2_18 (pc := 40) dX2_takeBack_40 (gO2 hF) h (fun x12 h => ?_)
  exact r_iretH dX2_takeBack_43 h he
set_option maxHeartbeats 4000000 in
set_option maxRecDepth 100000 in
theorem tX4_add (l : Launch) (G : gX) (u : gU) (hF : gFull u) (p1 : Int32) (m : gM) (o : gM × Int32) (h : fX4_add p1 m = some o)  : gMet l G u yX4_add (.code yX4_add cX4_add 2 (some .int)) rmX4_add [.ref 6, .int p1] m o.1 (some (.int o.2)) := by
  refine gMet_of (own := RX4) (k := 0) (by decide) rfl ⟨rfl, rfl⟩ (Nat.le_of_ble_eq_true rfl) [some (.ref 6), some (.int p1)] rfl (fun Y hG hu hnL hLn hRm he => ?_)
  subst hG hu hLn
  unfold fX4_add at h
  refine r_aload_n (pc := 0) dX4_add_0 rfl rfl ?_
  refine fX4_9 (pc := 1) hF dX4_add_1 (fun b1 => ?_)
  refine r_aload_n (pc := 4) dX4_add_4 rfl rfl ?_
  refine fX4_15 (pc := 5) dX4_add_5 (gO3 hF) h (fun x2 h => ?_)
  refine r_iload_n (pc := 8) dX4_add_8 rfl rfl ?_
  refine r_cast (pc := 9) dX4_add_9 b1 h (fun m3 h => ?_)
  refine r_aload_n (pc := 10) dX4_add_10 rfl rfl ?_
  refine r_dup (pc := 11) dX4_add_11 rfl ?_
  refine fX4_15 (pc := 12) dX4_add_12 (gO3 hF) h (fun x4 h => ?_)
  refine r_iconst (pc := 15) (v := 1) dX4_add_15 (by decide) ?_
  refine r_iadd (pc := 16) dX4_add_16 ?_
  refine fX4_15p (pc := 17) dX4_add_17 (gO3 hF) h (fun m5 h => ?_)
  refine r_aload_n (pc := 20) dX4_add_20 rfl rfl ?_
  refine fX4_15 (pc := 21) dX4_add_21 (gO3 hF) h (fun x6 h => ?_)
  exact r_iretH dX4_add_24 h he
set_option maxHeartbeats 4000000 in
set_option maxRecDepth 100000 in
theorem tX4_empty (l : Launch) (G : gX) (u : gU) (hF : gFull u)  (m : gM) (o : gM × Int32) (h : fX4_empty  m = some o)  : gMet l G u yX4_empty (.code yX4_empty cX4_empty 2 (some .int)) rmX4_empty [.ref 6] m o.1 (some (.int o.2)) := by
  refine gMet_of (own := RX4) (k := 1) (by decide) rfl ⟨rfl, rfl⟩ (Nat.le_of_ble_eq_true rfl) [some (.ref 6), none] rfl (fun Y hG hu hnL hLn hRm he => ?_)
  subst hG hu hLn
  unfold fX4_empty at h
  refine r_aload_n (pc := 0) dX4_empty_0 rfl rfl ?_
  refine fX4_15 (pc := 1) dX4_empty_1 (gO3 hF) h (fun x1 h => ?_)
  refine r_istore_n (pc := 4) dX4_empty_4 rfl (by rw [hnL]; decide) rfl ?_
  refine r_aload_n (pc := 5) dX4_empty_5 rfl rfl ?_
  refine r_iconst (pc := 6) (v := 0) dX4_empty_6 (by decide) ?_
  refine fX4_15p (pc := 7) dX4_empty_7 (gO3 hF) h (fun m2 h => ?_)
  refine r_iload_n (pc := 10) dX4_empty_10 rfl rfl ?_
  exact r_iretH dX4_empty_11 h he
set_option maxHeartbeats 4000000 in
set_option maxRecDepth 100000 in
theorem tX4_signAt (l : Launch) (G : gX) (u : gU) (hF : gFull u) (p1 : Int32) (m : gM) (o : gM × Int32) (h : fX4_signAt p1 m = some o)  : gMet l G u yX4_signAt (.code yX4_signAt cX4_signAt 2 (some .char)) rmX4_signAt [.ref 6, .int p1] m o.1 (some (.int o.2)) := by
  refine gMet_of (own := RX4) (k := 0) (by decide) rfl ⟨rfl, rfl⟩ (Nat.le_of_ble_eq_true rfl) [some (.ref 6), some (.int p1)] rfl (fun Y hG hu hnL hLn hRm he => ?_)
  subst hG hu hLn
  unfold fX4_signAt at h
  refine r_iload_n (pc := 0) dX4_signAt_0 rfl rfl ?_
  refine r_if_lt (pc := 1) (tgt := 21) dX4_signAt_1 (by decide) h (fun h => ?_) (fun h => ?_)
  · refine r_iconst (pc := 21) (v := 0) dX4_signAt_21 (by decide) ?_
    exact r_zretH dX4_signAt_22 rfl h he
  · refine r_iload_n (pc := 4) dX4_signAt_4 rfl rfl ?_
    refine r_aload_n (pc := 5) dX4_signAt_5 rfl rfl ?_
    refine fX4_15 (pc := 6) dX4_signAt_6 (gO3 hF) h (fun x1 h => ?_)
    refine r_icmp_ge (pc := 9) (tgt := 21) dX4_signAt_9 (by decide) h (fun h => ?_) (fun h => ?_)
    · refine r_iconst (pc := 21) (v := 0) dX4_signAt_21 (by decide) ?_
      exact r_zretH dX4_signAt_22 rfl h he
    · refine r_aload_n (pc := 12) dX4_signAt_12 rfl rfl ?_
      refine fX4_9 (pc := 13) hF dX4_signAt_13 (fun b2 => ?_)
      refine r_iload_n (pc := 16) dX4_signAt_16 rfl rfl ?_
      refine r_cald (pc := 17) dX4_signAt_17 b2 h (fun x3 h => ?_)
      refine r_goto (pc := 18) (tgt := 22) dX4_signAt_18 (by decide) ?_
      exact r_zretH dX4_signAt_22 rfl h he
set_option maxHeartbeats 4000000 in
set_option maxRecDepth 100000 in
theorem tX4_formOf (l : Launch) (G : gX) (u : gU) (hF : gFull u) (p1 : Int32) (m : gM) (o : gM × Nat) (h : fX4_formOf p1 m = some o)  : gMet l G u yX4_formOf (.code yX4_formOf cX4_formOf 1 (some (.object "java/lang/String"))) rmX4_formOf [.int p1] m o.1 (some (.ref o.2)) := by
  refine gMet_of (own := RX4) (k := 0) (by decide) rfl ⟨rfl, rfl⟩ (Nat.le_of_ble_eq_true rfl) [some (.int p1)] rfl (fun Y hG hu hnL hLn hRm he => ?_)
  subst hG hu hLn
  unfold fX4_formOf at h
  refine r_iload_n (pc := 0) dX4_formOf_0 rfl rfl ?_
  refine r_sw h (fun g1 h => ?_) (fun g1 h => ?_)
  · refine r_tabIn (pc := 1) (tgt := 104) (v := 99) dX4_formOf_1 g1 (by decide) (by decide) rfl (by decide) ?_
    refine r_ldcT (pc := 104) (i := 0) (by decide) rfl dX4_formOf_104 ?_
    exact r_aretH dX4_formOf_106 (Or.inl ⟨_, rfl⟩) h he
  refine r_sw h (fun g2 h => ?_) (fun g2 h => ?_)
  · refine r_tabIn (pc := 1) (tgt := 122) (v := 100) dX4_formOf_1 g2 (by decide) (by decide) rfl (by decide) ?_
    refine r_ldcT (pc := 122) (i := 6) (by decide) rfl dX4_formOf_122 ?_
    exact r_aretH dX4_formOf_124 (Or.inl ⟨_, rfl⟩) h he
  refine r_sw h (fun g3 h => ?_) (fun g3 h => ?_)
  · refine r_tabIn (pc := 1) (tgt := 125) (v := 101) dX4_formOf_1 g3 (by decide) (by decide) rfl (by decide) ?_
    refine r_ldcT (pc := 125) (i := 7) (by decide) rfl dX4_formOf_125 ?_
    exact r_aretH dX4_formOf_127 (Or.inl ⟨_, rfl⟩) h he
  refine r_sw h (fun g4 h => ?_) (fun g4 h => ?_)
  · refine r_tabIn (pc := 1) (tgt := 125) (v := 102) dX4_formOf_1 g4 (by decide) (by decide) rfl (by decide) ?_
    refine r_ldcT (pc := 125) (i := 7) (by decide) rfl dX4_formOf_125 ?_
    exact r_aretH dX4_formOf_127 (Or.inl ⟨_, rfl⟩) h he
  refine r_sw h (fun g5 h => ?_) (fun g5 h => ?_)
  · refine r_tabIn (pc := 1) (tgt := 125) (v := 103) dX4_formOf_1 g5 (by decide) (by decide) rfl (by decide) ?_
    refine r_ldcT (pc := 125) (i := 7) (by decide) rfl dX4_formOf_125 ?_
    exact r_aretH dX4_formOf_127 (Or.inl ⟨_, rfl⟩) h he
  refine r_sw h (fun g6 h => ?_) (fun g6 h => ?_)
  · refine r_tabIn (pc := 1) (tgt := 110) (v := 104) dX4_formOf_1 g6 (by decide) (by decide) rfl (by decide) ?_
    refine r_ldcT (pc := 110) (i := 2) (by decide) rfl dX4_formOf_110 ?_
    exact r_aretH dX4_formOf_112 (Or.inl ⟨_, rfl⟩) h he
  refine r_sw h (fun g7 h => ?_) (fun g7 h => ?_)
  · refine r_tabIn (pc := 1) (tgt := 125) (v := 105) dX4_formOf_1 g7 (by decide) (by decide) rfl (by decide) ?_
    refine r_ldcT (pc := 125) (i := 7) (by decide) rfl dX4_formOf_125 ?_
    exact r_aretH dX4_formOf_127 (Or.inl ⟨_, rfl⟩) h he
  refine r_sw h (fun g8 h => ?_) (fun g8 h => ?_)
  · refine r_tabIn (pc := 1) (tgt := 125) (v := 106) dX4_formOf_1 g8 (by decide) (by decide) rfl (by decide) ?_
    refine r_ldcT (pc := 125) (i := 7) (by decide) rfl dX4_formOf_125 ?_
    exact r_aretH dX4_formOf_127 (Or.inl ⟨_, rfl⟩) h he
  refine r_sw h (fun g9 h => ?_) (fun g9 h => ?_)
  · refine r_tabIn (pc := 1) (tgt := 125) (v := 107) dX4_formOf_1 g9 (by decide) (by decide) rfl (by decide) ?_
    refine r_ldcT (pc := 125) (i := 7) (by decide) rfl dX4_formOf_125 ?_
    exact r_aretH dX4_formOf_127 (Or.inl ⟨_, rfl⟩) h he
  refine r_sw h (fun g10 h => ?_) (fun g10 h => ?_)
  · refine r_tabIn (pc := 1) (tgt := 125) (v := 108) dX4_formOf_1 g10 (by decide) (by decide) rfl (by decide) ?_
    refine r_ldcT (pc := 125) (i := 7) (by decide) rfl dX4_formOf_125 ?_
    exact r_aretH dX4_formOf_127 (Or.inl ⟨_, rfl⟩) h he
  refine r_sw h (fun g11 h => ?_) (fun g11 h => ?_)
  · refine r_tabIn (pc := 1) (tgt := 125) (v := 109) dX4_formOf_1 g11 (by decide) (by decide) rfl (by decide) ?_
    refine r_ldcT (pc := 125) (i := 7) (by decide) rfl dX4_formOf_125 ?_
    exact r_aretH dX4_formOf_127 (Or.inl ⟨_, rfl⟩) h he
  refine r_sw h (fun g12 h => ?_) (fun g12 h => ?_)
  · refine r_tabIn (pc := 1) (tgt := 107) (v := 110) dX4_formOf_1 g12 (by decide) (by decide) rfl (by decide) ?_
    refine r_ldcT (pc := 107) (i := 1) (by decide) rfl dX4_formOf_107 ?_
    exact r_aretH dX4_formOf_109 (Or.inl ⟨_, rfl⟩) h he
  refine r_sw h (fun g13 h => ?_) (fun g13 h => ?_)
  · refine r_tabIn (pc := 1) (tgt := 125) (v := 111) dX4_formOf_1 g13 (by decide) (by decide) rfl (by decide) ?_
    refine r_ldcT (pc := 125) (i := 7) (by decide) rfl dX4_formOf_125 ?_
    exact r_aretH dX4_formOf_127 (Or.inl ⟨_, rfl⟩) h he
  refine r_sw h (fun g14 h => ?_) (fun g14 h => ?_)
  · refine r_tabIn (pc := 1) (tgt := 125) (v := 112) dX4_formOf_1 g14 (by decide) (by decide) rfl (by decide) ?_
    refine r_ldcT (pc := 125) (i := 7) (by decide) rfl dX4_formOf_125 ?_
    exact r_aretH dX4_formOf_127 (Or.inl ⟨_, rfl⟩) h he
  refine r_sw h (fun g15 h => ?_) (fun g15 h => ?_)
  · refine r_tabIn (pc := 1) (tgt := 125) (v := 113) dX4_formOf_1 g15 (by decide) (by decide) rfl (by decide) ?_
    refine r_ldcT (pc := 125) (i := 7) (by decide) rfl dX4_formOf_125 ?_
    exact r_aretH dX4_formOf_127 (Or.inl ⟨_, rfl⟩) h he
  refine r_sw h (fun g16 h => ?_) (fun g16 h => ?_)
  · refine r_tabIn (pc := 1) (tgt := 125) (v := 114) dX4_formOf_1 g16 (by decide) (by decide) rfl (by decide) ?_
    refine r_ldcT (pc := 125) (i := 7) (by decide) rfl dX4_formOf_125 ?_
    exact r_aretH dX4_formOf_127 (Or.inl ⟨_, rfl⟩) h he
  refine r_sw h (fun g17 h => ?_) (fun g17 h => ?_)
  · refine r_tabIn (pc := 1) (tgt := 119) (v := 115) dX4_formOf_1 g17 (by decide) (by decide) rfl (by decide) ?_
    refine r_ldcT (pc := 119) (i := 5) (by decide) rfl dX4_formOf_119 ?_
    exact r_aretH dX4_formOf_121 (Or.inl ⟨_, rfl⟩) h he
  refine r_sw h (fun g18 h => ?_) (fun g18 h => ?_)
  · refine r_tabIn (pc := 1) (tgt := 125) (v := 116) dX4_formOf_1 g18 (by decide) (by decide) rfl (by decide) ?_
    refine r_ldcT (pc := 125) (i := 7) (by decide) rfl dX4_formOf_125 ?_
    exact r_aretH dX4_formOf_127 (Or.inl ⟨_, rfl⟩) h he
  refine r_sw h (fun g19 h => ?_) (fun g19 h => ?_)
  · refine r_tabIn (pc := 1) (tgt := 125) (v := 117) dX4_formOf_1 g19 (by decide) (by decide) rfl (by decide) ?_
    refine r_ldcT (pc := 125) (i := 7) (by decide) rfl dX4_formOf_125 ?_
    exact r_aretH dX4_formOf_127 (Or.inl ⟨_, rfl⟩) h he
  refine r_sw h (fun g20 h => ?_) (fun g20 h => ?_)
  · refine r_tabIn (pc := 1) (tgt := 116) (v := 118) dX4_formOf_1 g20 (by decide) (by decide) rfl (by decide) ?_
    refine r_ldcT (pc := 116) (i := 4) (by decide) rfl dX4_formOf_116 ?_
    exact r_aretH dX4_formOf_118 (Or.inl ⟨_, rfl⟩) h he
  refine r_sw h (fun g21 h => ?_) (fun g21 h => ?_)
  · refine r_tabIn (pc := 1) (tgt := 125) (v := 119) dX4_formOf_1 g21 (by decide) (by decide) rfl (by decide) ?_
    refine r_ldcT (pc := 125) (i := 7) (by decide) rfl dX4_formOf_125 ?_
    exact r_aretH dX4_formOf_127 (Or.inl ⟨_, rfl⟩) h he
  refine r_sw h (fun g22 h => ?_) (fun g22 h => ?_)
  · refine r_tabIn (pc := 1) (tgt := 113) (v := 120) dX4_formOf_1 g22 (by decide) (by decide) rfl (by decide) ?_
    refine r_ldcT (pc := 113) (i := 3) (by decide) rfl dX4_formOf_113 ?_
    exact r_aretH dX4_formOf_115 (Or.inl ⟨_, rfl⟩) h he
  have g1n := gNe g1 (z := 99) (by decide)
  have g2n := gNe g2 (z := 100) (by decide)
  have g3n := gNe g3 (z := 101) (by decide)
  have g4n := gNe g4 (z := 102) (by decide)
  have g5n := gNe g5 (z := 103) (by decide)
  have g6n := gNe g6 (z := 104) (by decide)
  have g7n := gNe g7 (z := 105) (by decide)
  have g8n := gNe g8 (z := 106) (by decide)
  have g9n := gNe g9 (z := 107) (by decide)
  have g10n := gNe g10 (z := 108) (by decide)
  have g11n := gNe g11 (z := 109) (by decide)
  have g12n := gNe g12 (z := 110) (by decide)
  have g13n := gNe g13 (z := 111) (by decide)
  have g14n := gNe g14 (z := 112) (by decide)
  have g15n := gNe g15 (z := 113) (by decide)
  have g16n := gNe g16 (z := 114) (by decide)
  have g17n := gNe g17 (z := 115) (by decide)
  have g18n := gNe g18 (z := 116) (by decide)
  have g19n := gNe g19 (z := 117) (by decide)
  have g20n := gNe g20 (z := 118) (by decide)
  have g21n := gNe g21 (z := 119) (by decide)
  have g22n := gNe g22 (z := 120) (by decide)
  refine r_tabOut (pc := 1) (tgt := 125) dX4_formOf_1 (by omega) (by decide) ?_
  refine r_ldcT (pc := 125) (i := 7) (by decide) rfl dX4_formOf_125 ?_
  exact r_aretH dX4_formOf_127 (Or.inl ⟨_, rfl⟩) h he
set_option maxHeartbeats 4000000 in
set_option maxRecDepth 100000 in
theorem tX4_formLength (l : Launch) (G : gX) (u : gU) (hF : gFull u) (p1 : Int32) (m : gM) (o : gM × Int32) (h : fX4_formLength p1 m = some o)  : gMet l G u yX4_formLength (.code yX4_formLength cX4_formLength 2 (some .int)) rmX4_formLength [.ref 6, .int p1] m o.1 (some (.int o.2)) := by
  refine gMet_of (own := RX4) (k := 0) (by decide) rfl ⟨rfl, rfl⟩ (Nat.le_of_ble_eq_true rfl) [some (.ref 6), some (.int p1)] rfl (fun Y hG hu hnL hLn hRm he => ?_)
  subst hG hu hLn
  unfold fX4_formLength at h
  refine r_aload_n (pc := 0) dX4_formLength_0 rfl rfl ?_
  refine r_iload_n (pc := 1) dX4_formLength_1 rfl rfl ?_
  obtain ⟨m1, x2, q3, h⟩ := gCl_some h
  refine r_callV (kd := 3) (pc := 2) [.int _] (tX4_signAt _ _ _ hF _ _ _ q3) ⟨rfl, rfl⟩ cd_X4_signAt wX4_35 nm_X4_signAt rfl (by rw [hRm]; decide) rfl (Nat.le_of_ble_eq_true rfl) rfl (by decide) (gO3 hF) dX4_formLength_2 ?_
  obtain ⟨m4, x5, q6, h⟩ := gCl_some h
  refine r_callS (pc := 5) [.int _] (tX4_formOf _ _ _ hF _ _ _ q6) ⟨rfl, rfl⟩ cd_X4_formOf wX4_39 nm_X4_formOf rfl (by rw [hRm]; decide) rfl (Nat.le_of_ble_eq_true rfl) dX4_formLength_5 ?_
  obtain ⟨i7, b8, ei7, hi7⟩ := gOkS_some h
  clear h
  have h := hi7
  subst ei7
  obtain ⟨m9, x10, q11, h⟩ := gCl_some h
  refine r_callVS (pc := 8) [] (tJ0_length_8abf5 _ _ _ hF _ _ _ q11 b8) ⟨rfl, rfl⟩ cd_J0_length_8abf5 wX4_43 nm_J0_length_8abf5 rfl (by rw [hRm]; decide) rfl (Nat.le_of_ble_eq_true rfl) b8 dX4_formLength_8 ?_
  exact r_iretH dX4_formLength_11 h he
set_option maxHeartbeats 4000000 in
set_option maxRecDepth 100000 in
theorem tX4_isAllowed (l : Launch) (G : gX) (u : gU) (hF : gFull u) (p1 : Int32) (p2 : Int32) (m : gM) (o : gM × Int32) (h : fX4_isAllowed p1 p2 m = some o)  : gMet l G u yX4_isAllowed (.code yX4_isAllowed cX4_isAllowed 5 (some .boolean)) rmX4_isAllowed [.ref 6, .int p1, .int p2] m o.1 (some (.int o.2)) := by
  refine gMet_of (own := RX4) (k := 2) (by decide) rfl ⟨rfl, rfl⟩ (Nat.le_of_ble_eq_true rfl) [some (.ref 6), some (.int p1), some (.int p2), none, none] rfl (fun Y hG hu hnL hLn hRm he => ?_)
  subst hG hu hLn
  unfold fX4_isAllowed at h
  refine r_aload_n (pc := 0) dX4_isAllowed_0 rfl rfl ?_
  refine r_iload_n (pc := 1) dX4_isAllowed_1 rfl rfl ?_
  obtain ⟨m1, x2, q3, h⟩ := gCl_some h
  refine r_callV (kd := 3) (pc := 2) [.int _] (tX4_signAt _ _ _ hF _ _ _ q3) ⟨rfl, rfl⟩ cd_X4_signAt wX4_35 nm_X4_signAt rfl (by rw [hRm]; decide) rfl (Nat.le_of_ble_eq_true rfl) rfl (by decide) (gO3 hF) dX4_isAllowed_2 ?_
  refine r_istore_n (pc := 5) dX4_isAllowed_5 rfl (by rw [hnL]; decide) rfl ?_
  refine r_iload_n (pc := 6) dX4_isAllowed_6 rfl rfl ?_
  refine r_bipush (pc := 7) (v := 43) dX4_isAllowed_7 (by decide) ?_
  refine r_icmp_ne (pc := 9) (tgt := 30) dX4_isAllowed_9 (by decide) h (fun h => ?_) (fun h => ?_)
  · refine r_iload_n (pc := 30) dX4_isAllowed_30 rfl rfl ?_
    refine r_bipush (pc := 31) (v := 100) dX4_isAllowed_31 (by decide) ?_
    refine r_icmp_ne (pc := 33) (tgt := 87) dX4_isAllowed_33 (by decide) h (fun h => ?_) (fun h => ?_)
    · refine r_iload_n (pc := 87) dX4_isAllowed_87 rfl rfl ?_
      refine r_bipush (pc := 88) (v := 48) dX4_isAllowed_88 (by decide) ?_
      refine r_icmp_lt (pc := 90) (tgt := 102) dX4_isAllowed_90 (by decide) h (fun h => ?_) (fun h => ?_)
      · refine r_iconst (pc := 102) (v := 0) dX4_isAllowed_102 (by decide) ?_
        exact r_zretH dX4_isAllowed_103 rfl h he
      · refine r_iload_n (pc := 93) dX4_isAllowed_93 rfl rfl ?_
        refine r_iload_n (pc := 94) dX4_isAllowed_94 rfl rfl ?_
        refine r_icmp_gt (pc := 95) (tgt := 102) dX4_isAllowed_95 (by decide) h (fun h => ?_) (fun h => ?_)
        · refine r_iconst (pc := 102) (v := 0) dX4_isAllowed_102 (by decide) ?_
          exact r_zretH dX4_isAllowed_103 rfl h he
        · refine r_iconst (pc := 98) (v := 1) dX4_isAllowed_98 (by decide) ?_
          refine r_goto (pc := 99) (tgt := 103) dX4_isAllowed_99 (by decide) ?_
          exact r_zretH dX4_isAllowed_103 rfl h he
    · refine r_aload_n (pc := 36) dX4_isAllowed_36 rfl rfl ?_
      refine r_iload_n (pc := 37) dX4_isAllowed_37 rfl rfl ?_
      refine r_iconst (pc := 38) (v := 1) dX4_isAllowed_38 (by decide) ?_
      refine r_isub (pc := 39) dX4_isAllowed_39 ?_
      obtain ⟨m4, x5, q6, h⟩ := gCl_some h
      refine r_callV (kd := 3) (pc := 40) [.int _] (tX4_signAt _ _ _ hF _ _ _ q6) ⟨rfl, rfl⟩ cd_X4_signAt wX4_35 nm_X4_signAt rfl (by rw [hRm]; decide) rfl (Nat.le_of_ble_eq_true rfl) rfl (by decide) (gO3 hF) dX4_isAllowed_40 ?_
      refine r_istore (pc := 43) dX4_isAllowed_43 (by rw [hnL]; decide) rfl ?_
      refine r_iload_n (pc := 45) dX4_isAllowed_45 rfl rfl ?_
      refine r_iload (pc := 46) dX4_isAllowed_46 rfl ?_
      refine r_bipush (pc := 48) (v := 48) dX4_isAllowed_48 (by decide) ?_
      refine r_jn1 h (fun x7 => AW Y cX4_isAllowed RX4 60 [none, none, none, some (.int x2), some (.int x5)] [.int x7, .int x2] m4) (fun x7 h => ?_) (fun hJ8 => ?_)
      · refine r_icmp_lt (pc := 60) (tgt := 85) dX4_isAllowed_60 (by decide) h (fun h => ?_) (fun h => ?_)
        · refine r_iconst (pc := 85) (v := 0) dX4_isAllowed_85 (by decide) ?_
          exact r_zretH dX4_isAllowed_86 rfl h he
        · refine r_iload_n (pc := 63) dX4_isAllowed_63 rfl rfl ?_
          refine r_iload (pc := 64) dX4_isAllowed_64 rfl ?_
          refine r_bipush (pc := 66) (v := 54) dX4_isAllowed_66 (by decide) ?_
          refine r_jn1 h (fun x10 => AW Y cX4_isAllowed RX4 78 [none, none, none, none, none] [.int x10, .int x2] m4) (fun x10 h => ?_) (fun hJ11 => ?_)
          · refine r_icmp_gt (pc := 78) (tgt := 85) dX4_isAllowed_78 (by decide) h (fun h => ?_) (fun h => ?_)
            · refine r_iconst (pc := 85) (v := 0) dX4_isAllowed_85 (by decide) ?_
              exact r_zretH dX4_isAllowed_86 rfl h he
            · refine r_iconst (pc := 81) (v := 1) dX4_isAllowed_81 (by decide) ?_
              refine r_goto (pc := 82) (tgt := 86) dX4_isAllowed_82 (by decide) ?_
              exact r_zretH dX4_isAllowed_86 rfl h he
          · refine r_icmpC_ne (pc := 68) (tgt := 76) dX4_isAllowed_68 (by decide) (fun g12 => ?_) (fun g12 => ?_)
            · refine r_bipush (pc := 76) (v := 57) dX4_isAllowed_76 (by decide) ?_
              exact r_mask [false, false, false, false, false] rfl (hJ11 _ (by rw [if_neg g12]))
            · refine r_bipush (pc := 71) (v := 48) dX4_isAllowed_71 (by decide) ?_
              refine r_goto (pc := 73) (tgt := 78) dX4_isAllowed_73 (by decide) ?_
              exact r_mask [false, false, false, false, false] rfl (hJ11 _ (by rw [if_pos g12]))
      · refine r_icmpC_ne (pc := 50) (tgt := 58) dX4_isAllowed_50 (by decide) (fun g9 => ?_) (fun g9 => ?_)
        · refine r_bipush (pc := 58) (v := 48) dX4_isAllowed_58 (by decide) ?_
          exact r_mask [false, false, false, true, true] rfl (hJ8 _ (by rw [if_neg g9]))
        · refine r_bipush (pc := 53) (v := 49) dX4_isAllowed_53 (by decide) ?_
          refine r_goto (pc := 55) (tgt := 60) dX4_isAllowed_55 (by decide) ?_
          exact r_mask [false, false, false, true, true] rfl (hJ8 _ (by rw [if_pos g9]))
  · refine r_iload_n (pc := 12) dX4_isAllowed_12 rfl rfl ?_
    refine r_bipush (pc := 13) (v := 43) dX4_isAllowed_13 (by decide) ?_
    refine r_icmp_eq (pc := 15) (tgt := 24) dX4_isAllowed_15 (by decide) h (fun h => ?_) (fun h => ?_)
    · refine r_iconst (pc := 24) (v := 1) dX4_isAllowed_24 (by decide) ?_
      refine r_goto (pc := 25) (tgt := 29) dX4_isAllowed_25 (by decide) ?_
      exact r_zretH dX4_isAllowed_29 rfl h he
    · refine r_iload_n (pc := 18) dX4_isAllowed_18 rfl rfl ?_
      refine r_bipush (pc := 19) (v := 45) dX4_isAllowed_19 (by decide) ?_
      refine r_icmp_ne (pc := 21) (tgt := 28) dX4_isAllowed_21 (by decide) h (fun h => ?_) (fun h => ?_)
      · refine r_iconst (pc := 28) (v := 0) dX4_isAllowed_28 (by decide) ?_
        exact r_zretH dX4_isAllowed_29 rfl h he
      · refine r_iconst (pc := 24) (v := 1) dX4_isAllowed_24 (by decide) ?_
        refine r_goto (pc := 25) (tgt := 29) dX4_isAllowed_25 (by decide) ?_
        exact r_zretH dX4_isAllowed_29 rfl h he
set_option maxHeartbeats 4000000 in
set_option maxRecDepth 100000 in
theorem tX4_firstError (l : Launch) (G : gX) (u : gU) (hF : gFull u)  (m : gM) (o : gM × Int32) (h : fX4_firstError  m = some o)  : gMet l G u yX4_firstError (.code yX4_firstError cX4_firstError 4 (some .int)) rmX4_firstError [.ref 6] m o.1 (some (.int o.2)) := by
  refine gMet_of (own := RX4) (k := 3) (by decide) rfl ⟨rfl, rfl⟩ (Nat.le_of_ble_eq_true rfl) [some (.ref 6), none, none, none] rfl (fun Y hG hu hnL hLn hRm he => ?_)
  subst hG hu hLn
  unfold fX4_firstError at h
  refine r_aload_n (pc := 0) dX4_firstError_0 rfl rfl ?_
  refine r_iconst (pc := 1) (v := 0) dX4_firstError_1 (by decide) ?_
  obtain ⟨m1, x2, q3, h⟩ := gCl_some h
  refine r_callV (kd := 3) (pc := 2) [.int _] (tX4_signAt _ _ _ hF _ _ _ q3) ⟨rfl, rfl⟩ cd_X4_signAt wX4_35 nm_X4_signAt rfl (by rw [hRm]; decide) rfl (Nat.le_of_ble_eq_true rfl) rfl (by decide) (gO3 hF) dX4_firstError_2 ?_
  refine r_bipush (pc := 5) (v := 66) dX4_firstError_5 (by decide) ?_
  refine r_icmp_eq (pc := 7) (tgt := 12) dX4_firstError_7 (by decide) h (fun h => ?_) (fun h => ?_)
  · refine r_iconst (pc := 12) (v := 1) dX4_firstError_12 (by decide) ?_
    refine r_istore_n (pc := 13) dX4_firstError_13 rfl (by rw [hnL]; decide) rfl ?_
    have L51 : ∀ (n49 : Nat) (v52 : Int32) (m53 : gM), fX4_firstError_L14 n49 v52 m53 = some o → AW Y cX4_firstError RX4 14 [some (.ref 6), some (.int v52), none, none] [] m53 := by
      intro n49
      induction n49 with
      | zero =>
        intro v52 m53 h
        exact absurd h (by simp [fX4_firstError_L14])
      | succ n49 ih50 =>
        intro v52 m53 h
        rw [fX4_firstError_L14] at h
        refine r_iload_n (pc := 14) dX4_firstError_14 rfl rfl ?_
        refine r_aload_n (pc := 15) dX4_firstError_15 rfl rfl ?_
        refine fX4_15 (pc := 16) dX4_firstError_16 (gO3 hF) h (fun x54 h => ?_)
        refine r_icmp_ge (pc := 19) (tgt := 92) dX4_firstError_19 (by decide) h (fun h => ?_) (fun h => ?_)
        · refine r_iconst (pc := 92) (v := (-1)) dX4_firstError_92 (by decide) ?_
          exact r_iretH dX4_firstError_93 h he
        · refine r_aload_n (pc := 22) dX4_firstError_22 rfl rfl ?_
          refine r_iload_n (pc := 23) dX4_firstError_23 rfl rfl ?_
          obtain ⟨m55, x56, q57, h⟩ := gCl_some h
          refine r_callV (kd := 3) (pc := 24) [.int _] (tX4_signAt _ _ _ hF _ _ _ q57) ⟨rfl, rfl⟩ cd_X4_signAt wX4_35 nm_X4_signAt rfl (by rw [hRm]; decide) rfl (Nat.le_of_ble_eq_true rfl) rfl (by decide) (gO3 hF) dX4_firstError_24 ?_
          obtain ⟨m58, x59, q60, h⟩ := gCl_some h
          refine r_callS (pc := 27) [.int _] (tX4_formOf _ _ _ hF _ _ _ q60) ⟨rfl, rfl⟩ cd_X4_formOf wX4_39 nm_X4_formOf rfl (by rw [hRm]; decide) rfl (Nat.le_of_ble_eq_true rfl) dX4_firstError_27 ?_
          obtain ⟨i61, b62, ei61, hi61⟩ := gOkS_some h
          clear h
          have h := hi61
          subst ei61
          refine r_astore_n (pc := 30) dX4_firstError_30 rfl (by rw [hnL]; decide) rfl ?_
          refine r_aload_n (pc := 31) dX4_firstError_31 rfl rfl ?_
          obtain ⟨m63, x64, q65, h⟩ := gCl_some h
          refine r_callVS (pc := 32) [] (tJ0_isEmpty_aae02 _ _ _ hF _ _ _ q65 b62) ⟨rfl, rfl⟩ cd_J0_isEmpty_aae02 wX4_48 nm_J0_isEmpty_aae02 rfl (by rw [hRm]; decide) rfl (Nat.le_of_ble_eq_true rfl) b62 dX4_firstError_32 ?_
          refine r_if_eq (pc := 35) (tgt := 40) dX4_firstError_35 (by decide) h (fun h => ?_) (fun h => ?_)
          · refine r_iconst (pc := 40) (v := 0) dX4_firstError_40 (by decide) ?_
            refine r_istore_n (pc := 41) dX4_firstError_41 rfl (by rw [hnL]; decide) rfl ?_
            have L68 : ∀ (n66 : Nat) (v69 : Int32) (m70 : gM), fX4_firstError_L42 v52 (20030 + i61) i61 (fX4_firstError_L14 n49) n66 v69 m70 = some o → AW Y cX4_firstError RX4 42 [some (.ref 6), some (.int v52), some (.ref (20030 + i61)), some (.int v69)] [] m70 := by
              intro n66
              induction n66 with
              | zero =>
                intro v69 m70 h
                exact absurd h (by simp [fX4_firstError_L42])
              | succ n66 ih67 =>
                intro v69 m70 h
                rw [fX4_firstError_L42] at h
                refine r_iload_n (pc := 42) dX4_firstError_42 rfl rfl ?_
                refine r_aload_n (pc := 43) dX4_firstError_43 rfl rfl ?_
                obtain ⟨m71, x72, q73, h⟩ := gCl_some h
                refine r_callVS (pc := 44) [] (tJ0_length_8abf5 _ _ _ hF _ _ _ q73 b62) ⟨rfl, rfl⟩ cd_J0_length_8abf5 wX4_43 nm_J0_length_8abf5 rfl (by rw [hRm]; decide) rfl (Nat.le_of_ble_eq_true rfl) b62 dX4_firstError_44 ?_
                refine r_icmp_ge (pc := 47) (tgt := 79) dX4_firstError_47 (by decide) h (fun h => ?_) (fun h => ?_)
                · refine r_iload_n (pc := 79) dX4_firstError_79 rfl rfl ?_
                  refine r_iconst (pc := 80) (v := 1) dX4_firstError_80 (by decide) ?_
                  refine r_aload_n (pc := 81) dX4_firstError_81 rfl rfl ?_
                  refine r_iload_n (pc := 82) dX4_firstError_82 rfl rfl ?_
                  obtain ⟨m74, x75, q76, h⟩ := gCl_some h
                  refine r_callV (kd := 3) (pc := 83) [.int _] (tX4_formLength _ _ _ hF _ _ _ q76) ⟨rfl, rfl⟩ cd_X4_formLength wX4_59 nm_X4_formLength rfl (by rw [hRm]; decide) rfl (Nat.le_of_ble_eq_true rfl) rfl (by decide) (gO3 hF) dX4_firstError_83 ?_
                  refine r_iadd (pc := 86) dX4_firstError_86 ?_
                  refine r_iadd (pc := 87) dX4_firstError_87 ?_
                  refine r_istore_nL (pc := 88) dX4_firstError_88 rfl (by rw [hnL]; decide) h (fun x77 h => ?_)
                  refine r_goto (pc := 89) (tgt := 14) dX4_firstError_89 (by decide) ?_
                  exact r_mask [true, true, false, false] rfl (ih50 _ _ h)
                · refine r_aload_n (pc := 50) dX4_firstError_50 rfl rfl ?_
                  refine r_aload_n (pc := 51) dX4_firstError_51 rfl rfl ?_
                  refine r_iload_n (pc := 52) dX4_firstError_52 rfl rfl ?_
                  obtain ⟨m78, x79, q80, h⟩ := gCl_some h
                  refine r_callVS (pc := 53) [.int _] (tJ0_charAt_5068e _ _ _ hF _ _ _ _ q80 b62) ⟨rfl, rfl⟩ cd_J0_charAt_5068e wX4_52 nm_J0_charAt_5068e rfl (by rw [hRm]; decide) rfl (Nat.le_of_ble_eq_true rfl) b62 dX4_firstError_53 ?_
                  refine r_iload_n (pc := 56) dX4_firstError_56 rfl rfl ?_
                  refine r_iconst (pc := 57) (v := 1) dX4_firstError_57 (by decide) ?_
                  refine r_iadd (pc := 58) dX4_firstError_58 ?_
                  refine r_iload_n (pc := 59) dX4_firstError_59 rfl rfl ?_
                  refine r_iadd (pc := 60) dX4_firstError_60 ?_
                  obtain ⟨m81, x82, q83, h⟩ := gCl_some h
                  refine r_callV (kd := 3) (pc := 61) [.int _, .int _] (tX4_isAllowed _ _ _ hF _ _ _ _ q83) ⟨rfl, rfl⟩ cd_X4_isAllowed wX4_55 nm_X4_isAllowed rfl (by rw [hRm]; decide) rfl (Nat.le_of_ble_eq_true rfl) rfl (by decide) (gO3 hF) dX4_firstError_61 ?_
                  refine r_if_ne (pc := 64) (tgt := 73) dX4_firstError_64 (by decide) h (fun h => ?_) (fun h => ?_)
                  · refine r_iinc (pc := 73) (d := 1) dX4_firstError_73 rfl (by decide) (by rw [hnL]; decide) h (fun x84 h => ?_)
                    refine r_goto (pc := 76) (tgt := 42) dX4_firstError_76 (by decide) ?_
                    exact r_mask [true, true, true, true] rfl (ih67 _ _ h)
                  · refine r_iload_n (pc := 67) dX4_firstError_67 rfl rfl ?_
                    refine r_iconst (pc := 68) (v := 1) dX4_firstError_68 (by decide) ?_
                    refine r_iadd (pc := 69) dX4_firstError_69 ?_
                    refine r_iload_n (pc := 70) dX4_firstError_70 rfl rfl ?_
                    refine r_iadd (pc := 71) dX4_firstError_71 ?_
                    exact r_iretH dX4_firstError_72 h he
            exact r_mask [true, true, true, true] rfl (L68 _ _ _ h)
          · refine r_iload_n (pc := 38) dX4_firstError_38 rfl rfl ?_
            exact r_iretH dX4_firstError_39 h he
    exact r_mask [true, true, false, false] rfl (L51 _ _ _ h)
  · refine r_iconst (pc := 10) (v := 0) dX4_firstError_10 (by decide) ?_
    exact r_iretH dX4_firstError_11 h he
set_option maxHeartbeats 4000000 in
set_option maxRecDepth 100000 in
theorem tX4_numberAt (l : Launch) (G : gX) (u : gU) (hF : gFull u) (p1 : Int32) (p2 : Int32) (m : gM) (o : gM × Int32) (h : fX4_numberAt p1 p2 m = some o)  : gMet l G u yX4_numberAt (.code yX4_numberAt cX4_numberAt 5 (some .int)) rmX4_numberAt [.ref 6, .int p1, .int p2] m o.1 (some (.int o.2)) := by
  refine gMet_of (own := RX4) (k := 2) (by decide) rfl ⟨rfl, rfl⟩ (Nat.le_of_ble_eq_true rfl) [some (.ref 6), some (.int p1), some (.int p2), none, none] rfl (fun Y hG hu hnL hLn hRm he => ?_)
  subst hG hu hLn
  unfold fX4_numberAt at h
  refine r_iconst (pc := 0) (v := 0) dX4_numberAt_0 (by decide) ?_
  refine r_istore_n (pc := 1) dX4_numberAt_1 rfl (by rw [hnL]; decide) rfl ?_
  refine r_iconst (pc := 2) (v := 0) dX4_numberAt_2 (by decide) ?_
  refine r_istore (pc := 3) dX4_numberAt_3 (by rw [hnL]; decide) rfl ?_
  have L8 : ∀ (n6 : Nat) (v9 : Int32) (v10 : Int32) (m11 : gM), fX4_numberAt_L5 p1 p2 n6 v9 v10 m11 = some o → AW Y cX4_numberAt RX4 5 [some (.ref 6), some (.int p1), some (.int p2), some (.int v9), some (.int v10)] [] m11 := by
    intro n6
    induction n6 with
    | zero =>
      intro v9 v10 m11 h
      exact absurd h (by simp [fX4_numberAt_L5])
    | succ n6 ih7 =>
      intro v9 v10 m11 h
      rw [fX4_numberAt_L5] at h
      refine r_iload (pc := 5) dX4_numberAt_5 rfl ?_
      refine r_iload_n (pc := 7) dX4_numberAt_7 rfl rfl ?_
      refine r_icmp_ge (pc := 8) (tgt := 34) dX4_numberAt_8 (by decide) h (fun h => ?_) (fun h => ?_)
      · refine r_iload_n (pc := 34) dX4_numberAt_34 rfl rfl ?_
        exact r_iretH dX4_numberAt_35 h he
      · refine r_iload_n (pc := 11) dX4_numberAt_11 rfl rfl ?_
        refine r_bipush (pc := 12) (v := 10) dX4_numberAt_12 (by decide) ?_
        refine r_imul (pc := 14) dX4_numberAt_14 ?_
        refine r_aload_n (pc := 15) dX4_numberAt_15 rfl rfl ?_
        refine r_iload_n (pc := 16) dX4_numberAt_16 rfl rfl ?_
        refine r_iload (pc := 17) dX4_numberAt_17 rfl ?_
        refine r_iadd (pc := 19) dX4_numberAt_19 ?_
        obtain ⟨m12, x13, q14, h⟩ := gCl_some h
        refine r_callV (kd := 3) (pc := 20) [.int _] (tX4_signAt _ _ _ hF _ _ _ q14) ⟨rfl, rfl⟩ cd_X4_signAt wX4_35 nm_X4_signAt rfl (by rw [hRm]; decide) rfl (Nat.le_of_ble_eq_true rfl) rfl (by decide) (gO3 hF) dX4_numberAt_20 ?_
        refine r_iadd (pc := 23) dX4_numberAt_23 ?_
        refine r_bipush (pc := 24) (v := 48) dX4_numberAt_24 (by decide) ?_
        refine r_isub (pc := 26) dX4_numberAt_26 ?_
        refine r_istore_nL (pc := 27) dX4_numberAt_27 rfl (by rw [hnL]; decide) h (fun x15 h => ?_)
        refine r_iinc (pc := 28) (d := 1) dX4_numberAt_28 rfl (by decide) (by rw [hnL]; decide) h (fun x16 h => ?_)
        refine r_goto (pc := 31) (tgt := 5) dX4_numberAt_31 (by decide) ?_
        exact r_mask [true, true, true, true, true] rfl (ih7 _ _ _ h)
  exact r_mask [true, true, true, true, true] rfl (L8 _ _ _ _ h)
set_option maxHeartbeats 4000000 in
set_option maxRecDepth 100000 in
theorem tX4_doCommand (l : Launch) (G : gX) (u : gU) (hF : gFull u) (p1 : Int32) (a2 : Nat) (m : gM) (o : gM × Int32) (h : fX4_doCommand p1 a2 m = some o) (h2 : gIn u a2 0 0) : gMet l G u yX4_doCommand (.code yX4_doCommand cX4_doCommand 4 (some .int)) rmX4_doCommand [.ref 6, .int p1, .ref a2] m o.1 (some (.int o.2)) := by
  refine gMet_of (own := RX4) (k := 1) (by decide) rfl ⟨rfl, rfl⟩ (Nat.le_of_ble_eq_true rfl) [some (.ref 6), some (.int p1), some (.ref a2), none] rfl (fun Y hG hu hnL hLn hRm he => ?_)
  subst hG hu hLn
  unfold fX4_doCommand at h
  refine r_aload_n (pc := 0) dX4_doCommand_0 rfl rfl ?_
  refine r_iload_n (pc := 1) dX4_doCommand_1 rfl rfl ?_
  refine r_iconst (pc := 2) (v := 1) dX4_doCommand_2 (by decide) ?_
  refine r_iadd (pc := 3) dX4_doCommand_3 ?_
  refine r_iconst (pc := 4) (v := 1) dX4_doCommand_4 (by decide) ?_
  obtain ⟨m1, x2, q3, h⟩ := gCl_some h
  refine r_callV (kd := 3) (pc := 5) [.int _, .int _] (tX4_numberAt _ _ _ hF _ _ _ _ q3) ⟨rfl, rfl⟩ cd_X4_numberAt wX4_63 nm_X4_numberAt rfl (by rw [hRm]; decide) rfl (Nat.le_of_ble_eq_true rfl) rfl (by decide) (gO3 hF) dX4_doCommand_5 ?_
  refine r_istore_n (pc := 8) dX4_doCommand_8 rfl (by rw [hnL]; decide) rfl ?_
  refine r_aload_n (pc := 9) dX4_doCommand_9 rfl rfl ?_
  refine r_iload_n (pc := 10) dX4_doCommand_10 rfl rfl ?_
  obtain ⟨m4, x5, q6, h⟩ := gCl_some h
  refine r_callV (kd := 3) (pc := 11) [.int _] (tX4_signAt _ _ _ hF _ _ _ q6) ⟨rfl, rfl⟩ cd_X4_signAt wX4_35 nm_X4_signAt rfl (by rw [hRm]; decide) rfl (Nat.le_of_ble_eq_true rfl) rfl (by decide) (gO3 hF) dX4_doCommand_11 ?_
  refine r_sw h (fun g7 h => ?_) (fun g7 h => ?_)
  · refine r_lookup (pc := 14) (tgt := 72) (off := 58) dX4_doCommand_14 (by decide) (by rw [g7]; first | decide | (show Op.lookupswitch.offset _ _ (Int32.toInt 99) = _; decide)) (by decide) ?_
    refine r_aload_n (pc := 72) dX4_doCommand_72 rfl rfl ?_
    refine r_iconst (pc := 73) (v := 0) dX4_doCommand_73 (by decide) ?_
    refine r_iload_n (pc := 74) dX4_doCommand_74 rfl rfl ?_
    refine r_aload_n (pc := 75) dX4_doCommand_75 rfl rfl ?_
    refine r_iload_n (pc := 76) dX4_doCommand_76 rfl rfl ?_
    refine r_iconst (pc := 77) (v := 2) dX4_doCommand_77 (by decide) ?_
    refine r_iadd (pc := 78) dX4_doCommand_78 ?_
    refine r_bipush (pc := 79) (v := 7) dX4_doCommand_79 (by decide) ?_
    obtain ⟨m8, x9, q10, h⟩ := gCl_some h
    refine r_callV (kd := 3) (pc := 81) [.int _, .int _] (tX4_numberAt _ _ _ hF _ _ _ _ q10) ⟨rfl, rfl⟩ cd_X4_numberAt wX4_63 nm_X4_numberAt rfl (by rw [hRm]; decide) rfl (Nat.le_of_ble_eq_true rfl) rfl (by decide) (gO3 hF) dX4_doCommand_81 ?_
    refine r_iconst (pc := 84) (v := 0) dX4_doCommand_84 (by decide) ?_
    obtain ⟨m11, x12, q13, h⟩ := gCl_some h
    refine r_callVN (kd := 0) (pc := 85) [.int _, .int _, .int _, .int _] (tX0_perform _ _ _ hF _ _ _ _ _ _ _ q13 h2) ⟨rfl, rfl⟩ cd_X0_perform wX4_67 nm_X0_perform rfl (by rw [hRm]; decide) rfl (Nat.le_of_ble_eq_true rfl) rfl (by decide) h2 dX4_doCommand_85 ?_
    exact r_iretH dX4_doCommand_88 h he
  refine r_sw h (fun g14 h => ?_) (fun g14 h => ?_)
  · refine r_lookup (pc := 14) (tgt := 112) (off := 98) dX4_doCommand_14 (by decide) (by rw [g14]; first | decide | (show Op.lookupswitch.offset _ _ (Int32.toInt 104) = _; decide)) (by decide) ?_
    refine r_aload_n (pc := 112) dX4_doCommand_112 rfl rfl ?_
    refine r_iconst (pc := 113) (v := 2) dX4_doCommand_113 (by decide) ?_
    refine r_iload_n (pc := 114) dX4_doCommand_114 rfl rfl ?_
    refine r_aload_n (pc := 115) dX4_doCommand_115 rfl rfl ?_
    refine r_iload_n (pc := 116) dX4_doCommand_116 rfl rfl ?_
    refine r_iconst (pc := 117) (v := 2) dX4_doCommand_117 (by decide) ?_
    refine r_iadd (pc := 118) dX4_doCommand_118 ?_
    refine r_iconst (pc := 119) (v := 2) dX4_doCommand_119 (by decide) ?_
    obtain ⟨m15, x16, q17, h⟩ := gCl_some h
    refine r_callV (kd := 3) (pc := 120) [.int _, .int _] (tX4_numberAt _ _ _ hF _ _ _ _ q17) ⟨rfl, rfl⟩ cd_X4_numberAt wX4_63 nm_X4_numberAt rfl (by rw [hRm]; decide) rfl (Nat.le_of_ble_eq_true rfl) rfl (by decide) (gO3 hF) dX4_doCommand_120 ?_
    refine r_aload_n (pc := 123) dX4_doCommand_123 rfl rfl ?_
    refine r_iload_n (pc := 124) dX4_doCommand_124 rfl rfl ?_
    refine r_iconst (pc := 125) (v := 4) dX4_doCommand_125 (by decide) ?_
    refine r_iadd (pc := 126) dX4_doCommand_126 ?_
    refine r_iconst (pc := 127) (v := 2) dX4_doCommand_127 (by decide) ?_
    obtain ⟨m18, x19, q20, h⟩ := gCl_some h
    refine r_callV (kd := 3) (pc := 128) [.int _, .int _] (tX4_numberAt _ _ _ hF _ _ _ _ q20) ⟨rfl, rfl⟩ cd_X4_numberAt wX4_63 nm_X4_numberAt rfl (by rw [hRm]; decide) rfl (Nat.le_of_ble_eq_true rfl) rfl (by decide) (gO3 hF) dX4_doCommand_128 ?_
    obtain ⟨m21, x22, q23, h⟩ := gCl_some h
    refine r_callVN (kd := 0) (pc := 131) [.int _, .int _, .int _, .int _] (tX0_perform _ _ _ hF _ _ _ _ _ _ _ q23 h2) ⟨rfl, rfl⟩ cd_X0_perform wX4_67 nm_X0_perform rfl (by rw [hRm]; decide) rfl (Nat.le_of_ble_eq_true rfl) rfl (by decide) h2 dX4_doCommand_131 ?_
    exact r_iretH dX4_doCommand_134 h he
  refine r_sw h (fun g24 h => ?_) (fun g24 h => ?_)
  · refine r_lookup (pc := 14) (tgt := 89) (off := 75) dX4_doCommand_14 (by decide) (by rw [g24]; first | decide | (show Op.lookupswitch.offset _ _ (Int32.toInt 110) = _; decide)) (by decide) ?_
    refine r_aload_n (pc := 89) dX4_doCommand_89 rfl rfl ?_
    refine r_iconst (pc := 90) (v := 1) dX4_doCommand_90 (by decide) ?_
    refine r_iload_n (pc := 91) dX4_doCommand_91 rfl rfl ?_
    refine r_aload_n (pc := 92) dX4_doCommand_92 rfl rfl ?_
    refine r_iload_n (pc := 93) dX4_doCommand_93 rfl rfl ?_
    refine r_iconst (pc := 94) (v := 2) dX4_doCommand_94 (by decide) ?_
    refine r_iadd (pc := 95) dX4_doCommand_95 ?_
    refine r_iconst (pc := 96) (v := 1) dX4_doCommand_96 (by decide) ?_
    obtain ⟨m25, x26, q27, h⟩ := gCl_some h
    refine r_callV (kd := 3) (pc := 97) [.int _, .int _] (tX4_numberAt _ _ _ hF _ _ _ _ q27) ⟨rfl, rfl⟩ cd_X4_numberAt wX4_63 nm_X4_numberAt rfl (by rw [hRm]; decide) rfl (Nat.le_of_ble_eq_true rfl) rfl (by decide) (gO3 hF) dX4_doCommand_97 ?_
    refine r_aload_n (pc := 100) dX4_doCommand_100 rfl rfl ?_
    refine r_iload_n (pc := 101) dX4_doCommand_101 rfl rfl ?_
    refine r_iconst (pc := 102) (v := 3) dX4_doCommand_102 (by decide) ?_
    refine r_iadd (pc := 103) dX4_doCommand_103 ?_
    refine r_iconst (pc := 104) (v := 1) dX4_doCommand_104 (by decide) ?_
    obtain ⟨m28, x29, q30, h⟩ := gCl_some h
    refine r_callV (kd := 3) (pc := 105) [.int _, .int _] (tX4_numberAt _ _ _ hF _ _ _ _ q30) ⟨rfl, rfl⟩ cd_X4_numberAt wX4_63 nm_X4_numberAt rfl (by rw [hRm]; decide) rfl (Nat.le_of_ble_eq_true rfl) rfl (by decide) (gO3 hF) dX4_doCommand_105 ?_
    obtain ⟨m31, x32, q33, h⟩ := gCl_some h
    refine r_callVN (kd := 0) (pc := 108) [.int _, .int _, .int _, .int _] (tX0_perform _ _ _ hF _ _ _ _ _ _ _ q33 h2) ⟨rfl, rfl⟩ cd_X0_perform wX4_67 nm_X0_perform rfl (by rw [hRm]; decide) rfl (Nat.le_of_ble_eq_true rfl) rfl (by decide) h2 dX4_doCommand_108 ?_
    exact r_iretH dX4_doCommand_111 h he
  refine r_sw h (fun g34 h => ?_) (fun g34 h => ?_)
  · refine r_lookup (pc := 14) (tgt := 183) (off := 169) dX4_doCommand_14 (by decide) (by rw [g34]; first | decide | (show Op.lookupswitch.offset _ _ (Int32.toInt 115) = _; decide)) (by decide) ?_
    refine r_aload_n (pc := 183) dX4_doCommand_183 rfl rfl ?_
    refine r_bipush (pc := 184) (v := 6) dX4_doCommand_184 (by decide) ?_
    refine r_iload_n (pc := 186) dX4_doCommand_186 rfl rfl ?_
    refine r_aload_n (pc := 187) dX4_doCommand_187 rfl rfl ?_
    refine r_iload_n (pc := 188) dX4_doCommand_188 rfl rfl ?_
    refine r_iconst (pc := 189) (v := 2) dX4_doCommand_189 (by decide) ?_
    refine r_iadd (pc := 190) dX4_doCommand_190 ?_
    refine r_iconst (pc := 191) (v := 2) dX4_doCommand_191 (by decide) ?_
    obtain ⟨m35, x36, q37, h⟩ := gCl_some h
    refine r_callV (kd := 3) (pc := 192) [.int _, .int _] (tX4_numberAt _ _ _ hF _ _ _ _ q37) ⟨rfl, rfl⟩ cd_X4_numberAt wX4_63 nm_X4_numberAt rfl (by rw [hRm]; decide) rfl (Nat.le_of_ble_eq_true rfl) rfl (by decide) (gO3 hF) dX4_doCommand_192 ?_
    refine r_iconst (pc := 195) (v := 0) dX4_doCommand_195 (by decide) ?_
    obtain ⟨m38, x39, q40, h⟩ := gCl_some h
    refine r_callVN (kd := 0) (pc := 196) [.int _, .int _, .int _, .int _] (tX0_perform _ _ _ hF _ _ _ _ _ _ _ q40 h2) ⟨rfl, rfl⟩ cd_X0_perform wX4_67 nm_X0_perform rfl (by rw [hRm]; decide) rfl (Nat.le_of_ble_eq_true rfl) rfl (by decide) h2 dX4_doCommand_196 ?_
    exact r_iretH dX4_doCommand_199 h he
  refine r_sw h (fun g41 h => ?_) (fun g41 h => ?_)
  · refine r_lookup (pc := 14) (tgt := 167) (off := 153) dX4_doCommand_14 (by decide) (by rw [g41]; first | decide | (show Op.lookupswitch.offset _ _ (Int32.toInt 118) = _; decide)) (by decide) ?_
    refine r_aload_n (pc := 167) dX4_doCommand_167 rfl rfl ?_
    refine r_iconst (pc := 168) (v := 5) dX4_doCommand_168 (by decide) ?_
    refine r_iload_n (pc := 169) dX4_doCommand_169 rfl rfl ?_
    refine r_aload_n (pc := 170) dX4_doCommand_170 rfl rfl ?_
    refine r_iload_n (pc := 171) dX4_doCommand_171 rfl rfl ?_
    refine r_iconst (pc := 172) (v := 2) dX4_doCommand_172 (by decide) ?_
    refine r_iadd (pc := 173) dX4_doCommand_173 ?_
    refine r_iconst (pc := 174) (v := 1) dX4_doCommand_174 (by decide) ?_
    obtain ⟨m42, x43, q44, h⟩ := gCl_some h
    refine r_callV (kd := 3) (pc := 175) [.int _, .int _] (tX4_numberAt _ _ _ hF _ _ _ _ q44) ⟨rfl, rfl⟩ cd_X4_numberAt wX4_63 nm_X4_numberAt rfl (by rw [hRm]; decide) rfl (Nat.le_of_ble_eq_true rfl) rfl (by decide) (gO3 hF) dX4_doCommand_175 ?_
    refine r_iconst (pc := 178) (v := 0) dX4_doCommand_178 (by decide) ?_
    obtain ⟨m45, x46, q47, h⟩ := gCl_some h
    refine r_callVN (kd := 0) (pc := 179) [.int _, .int _, .int _, .int _] (tX0_perform _ _ _ hF _ _ _ _ _ _ _ q47 h2) ⟨rfl, rfl⟩ cd_X0_perform wX4_67 nm_X0_perform rfl (by rw [hRm]; decide) rfl (Nat.le_of_ble_eq_true rfl) rfl (by decide) h2 dX4_doCommand_179 ?_
    exact r_iretH dX4_doCommand_182 h he
  refine r_sw h (fun g48 h => ?_) (fun g48 h => ?_)
  · refine r_lookup (pc := 14) (tgt := 135) (off := 121) dX4_doCommand_14 (by decide) (by rw [g48]; first | decide | (show Op.lookupswitch.offset _ _ (Int32.toInt 120) = _; decide)) (by decide) ?_
    refine r_aload_n (pc := 135) dX4_doCommand_135 rfl rfl ?_
    refine r_iconst (pc := 136) (v := 4) dX4_doCommand_136 (by decide) ?_
    refine r_iload_n (pc := 137) dX4_doCommand_137 rfl rfl ?_
    refine r_aload_n (pc := 138) dX4_doCommand_138 rfl rfl ?_
    refine r_iload_n (pc := 139) dX4_doCommand_139 rfl rfl ?_
    refine r_iconst (pc := 140) (v := 2) dX4_doCommand_140 (by decide) ?_
    refine r_iadd (pc := 141) dX4_doCommand_141 ?_
    refine r_iconst (pc := 142) (v := 1) dX4_doCommand_142 (by decide) ?_
    obtain ⟨m49, x50, q51, h⟩ := gCl_some h
    refine r_callV (kd := 3) (pc := 143) [.int _, .int _] (tX4_numberAt _ _ _ hF _ _ _ _ q51) ⟨rfl, rfl⟩ cd_X4_numberAt wX4_63 nm_X4_numberAt rfl (by rw [hRm]; decide) rfl (Nat.le_of_ble_eq_true rfl) rfl (by decide) (gO3 hF) dX4_doCommand_143 ?_
    refine r_aload_n (pc := 146) dX4_doCommand_146 rfl rfl ?_
    refine r_iload_n (pc := 147) dX4_doCommand_147 rfl rfl ?_
    refine r_iconst (pc := 148) (v := 3) dX4_doCommand_148 (by decide) ?_
    refine r_iadd (pc := 149) dX4_doCommand_149 ?_
    obtain ⟨m52, x53, q54, h⟩ := gCl_some h
    refine r_callV (kd := 3) (pc := 150) [.int _] (tX4_signAt _ _ _ hF _ _ _ q54) ⟨rfl, rfl⟩ cd_X4_signAt wX4_35 nm_X4_signAt rfl (by rw [hRm]; decide) rfl (Nat.le_of_ble_eq_true rfl) rfl (by decide) (gO3 hF) dX4_doCommand_150 ?_
    refine r_bipush (pc := 153) (v := 43) dX4_doCommand_153 (by decide) ?_
    refine r_jn1 h (fun x55 => AW Y cX4_doCommand RX4 163 [none, none, none, none] [.int x55, .int x50, .int x2, .int 4, .ref a2] m52) (fun x55 h => ?_) (fun hJ56 => ?_)
    · obtain ⟨m58, x59, q60, h⟩ := gCl_some h
      refine r_callVN (kd := 0) (pc := 163) [.int _, .int _, .int _, .int _] (tX0_perform _ _ _ hF _ _ _ _ _ _ _ q60 h2) ⟨rfl, rfl⟩ cd_X0_perform wX4_67 nm_X0_perform rfl (by rw [hRm]; decide) rfl (Nat.le_of_ble_eq_true rfl) rfl (by decide) h2 dX4_doCommand_163 ?_
      exact r_iretH dX4_doCommand_166 h he
    · refine r_icmpC_ne (pc := 155) (tgt := 162) dX4_doCommand_155 (by decide) (fun g57 => ?_) (fun g57 => ?_)
      · refine r_iconst (pc := 162) (v := 0) dX4_doCommand_162 (by decide) ?_
        exact r_mask [false, false, false, false] rfl (hJ56 _ (by rw [if_neg g57]))
      · refine r_iconst (pc := 158) (v := 1) dX4_doCommand_158 (by decide) ?_
        refine r_goto (pc := 159) (tgt := 163) dX4_doCommand_159 (by decide) ?_
        exact r_mask [false, false, false, false] rfl (hJ56 _ (by rw [if_pos g57]))
  have g7n := gNe g7 (z := 99) (by decide)
  have g14n := gNe g14 (z := 104) (by decide)
  have g24n := gNe g24 (z := 110) (by decide)
  have g34n := gNe g34 (z := 115) (by decide)
  have g41n := gNe g41 (z := 118) (by decide)
  have g48n := gNe g48 (z := 120) (by decide)
  refine r_lookup (pc := 14) (tgt := 200) (off := 186) dX4_doCommand_14 (by decide) (by simp [Op.lookupswitch.offset, Ne.symm g7n, Ne.symm g14n, Ne.symm g24n, Ne.symm g34n, Ne.symm g41n, Ne.symm g48n]) (by decide) ?_
  refine r_aload_n (pc := 200) dX4_doCommand_200 rfl rfl ?_
  refine r_bipush (pc := 201) (v := 7) dX4_doCommand_201 (by decide) ?_
  refine r_aload_n (pc := 203) dX4_doCommand_203 rfl rfl ?_
  refine r_iload_n (pc := 204) dX4_doCommand_204 rfl rfl ?_
  refine r_iconst (pc := 205) (v := 1) dX4_doCommand_205 (by decide) ?_
  refine r_iadd (pc := 206) dX4_doCommand_206 ?_
  refine r_iconst (pc := 207) (v := 2) dX4_doCommand_207 (by decide) ?_
  obtain ⟨m61, x62, q63, h⟩ := gCl_some h
  refine r_callV (kd := 3) (pc := 208) [.int _, .int _] (tX4_numberAt _ _ _ hF _ _ _ _ q63) ⟨rfl, rfl⟩ cd_X4_numberAt wX4_63 nm_X4_numberAt rfl (by rw [hRm]; decide) rfl (Nat.le_of_ble_eq_true rfl) rfl (by decide) (gO3 hF) dX4_doCommand_208 ?_
  refine r_iconst (pc := 211) (v := 0) dX4_doCommand_211 (by decide) ?_
  refine r_iconst (pc := 212) (v := 0) dX4_doCommand_212 (by decide) ?_
  obtain ⟨m64, x65, q66, h⟩ := gCl_some h
  refine r_callVN (kd := 0) (pc := 213) [.int _, .int _, .int _, .int _] (tX0_perform _ _ _ hF _ _ _ _ _ _ _ q66 h2) ⟨rfl, rfl⟩ cd_X0_perform wX4_67 nm_X0_perform rfl (by rw [hRm]; decide) rfl (Nat.le_of_ble_eq_true rfl) rfl (by decide) h2 dX4_doCommand_213 ?_
  exact r_iretH dX4_doCommand_216 h he
set_option maxHeartbeats 4000000 in
set_option maxRecDepth 100000 in
theorem tX5_tellEachStreet (l : Launch) (G : gX) (u : gU) (hF : gFull u) (p1 : Int32) (m : gM) (o : gM × Int32) (h : fX5_tellEachStreet p1 m = some o)  : gMet l G u yX5_tellEachStreet (.code yX5_tellEachStreet cX5_tellEachStreet 4 (some .boolean)) rmX5_tellEachStreet [.int p1] m o.1 (some (.int o.2)) := by
  refine gMet_of (own := RX5) (k := 3) (by decide) rfl ⟨rfl, rfl⟩ (Nat.le_of_ble_eq_true rfl) [some (.int p1), none, none, none] rfl (fun Y hG hu hnL hLn hRm he => ?_)
  subst hG hu hLn
  unfold fX5_tellEachStreet at h
  refine r_iconst (pc := 0) (v := 0) dX5_tellEachStreet_0 (by decide) ?_
  refine r_istore_n (pc := 1) dX5_tellEachStreet_1 rfl (by rw [hnL]; decide) rfl ?_
  refine r_iload_n (pc := 2) dX5_tellEachStreet_2 rfl rfl ?_
  refine r_istore_n (pc := 3) dX5_tellEachStreet_3 rfl (by rw [hnL]; decide) rfl ?_
  refine r_iconst (pc := 4) (v := 0) dX5_tellEachStreet_4 (by decide) ?_
  refine r_istore_n (pc := 5) dX5_tellEachStreet_5 rfl (by rw [hnL]; decide) rfl ?_
  have L6 : ∀ (n4 : Nat) (v7 : Int32) (v8 : Int32) (v9 : Int32) (m10 : gM), fX5_tellEachStreet_L6 n4 v7 v8 v9 m10 = some o → AW Y cX5_tellEachStreet RX5 6 [none, some (.int v7), some (.int v8), some (.int v9)] [] m10 := by
    intro n4
    induction n4 with
    | zero =>
      intro v7 v8 v9 m10 h
      exact absurd h (by simp [fX5_tellEachStreet_L6])
    | succ n4 ih5 =>
      intro v7 v8 v9 m10 h
      rw [fX5_tellEachStreet_L6] at h
      refine r_iload_n (pc := 6) dX5_tellEachStreet_6 rfl rfl ?_
      refine r_iconst (pc := 7) (v := 4) dX5_tellEachStreet_7 (by decide) ?_
      refine r_icmp_ge (pc := 8) (tgt := 29) dX5_tellEachStreet_8 (by decide) h (fun h => ?_) (fun h => ?_)
      · refine r_iload_n (pc := 29) dX5_tellEachStreet_29 rfl rfl ?_
        refine r_bipush (pc := 30) (v := 15) dX5_tellEachStreet_30 (by decide) ?_
        refine r_icmp_ne (pc := 32) (tgt := 39) dX5_tellEachStreet_32 (by decide) h (fun h => ?_) (fun h => ?_)
        · refine r_iconst (pc := 39) (v := 0) dX5_tellEachStreet_39 (by decide) ?_
          exact r_zretH dX5_tellEachStreet_40 rfl h he
        · refine r_iconst (pc := 35) (v := 1) dX5_tellEachStreet_35 (by decide) ?_
          refine r_goto (pc := 36) (tgt := 40) dX5_tellEachStreet_36 (by decide) ?_
          exact r_zretH dX5_tellEachStreet_40 rfl h he
      · refine r_iload_n (pc := 11) dX5_tellEachStreet_11 rfl rfl ?_
        refine r_iconst (pc := 12) (v := 1) dX5_tellEachStreet_12 (by decide) ?_
        refine r_iload_n (pc := 13) dX5_tellEachStreet_13 rfl rfl ?_
        refine r_iconst (pc := 14) (v := 4) dX5_tellEachStreet_14 (by decide) ?_
        refine r_iremc (pc := 15) dX5_tellEachStreet_15 (by decide) ?_
        refine r_ishl (pc := 16) dX5_tellEachStreet_16 rfl ?_
        refine r_ior (pc := 17) dX5_tellEachStreet_17 ?_
        refine r_istore_nL (pc := 18) dX5_tellEachStreet_18 rfl (by rw [hnL]; decide) h (fun x11 h => ?_)
        refine r_iload_n (pc := 19) dX5_tellEachStreet_19 rfl rfl ?_
        refine r_iconst (pc := 20) (v := 4) dX5_tellEachStreet_20 (by decide) ?_
        refine r_idivc (pc := 21) dX5_tellEachStreet_21 (by decide) ?_
        refine r_istore_nL (pc := 22) dX5_tellEachStreet_22 rfl (by rw [hnL]; decide) h (fun x12 h => ?_)
        refine r_iinc (pc := 23) (d := 1) dX5_tellEachStreet_23 rfl (by decide) (by rw [hnL]; decide) h (fun x13 h => ?_)
        refine r_goto (pc := 26) (tgt := 6) dX5_tellEachStreet_26 (by decide) ?_
        exact r_mask [false, true, true, true] rfl (ih5 _ _ _ _ h)
  exact r_mask [false, true, true, true] rfl (L6 _ _ _ _ _ h)
set_option maxHeartbeats 4000000 in
set_option maxRecDepth 100000 in
theorem tX5_succeeds (l : Launch) (G : gX) (u : gU) (hF : gFull u) (p1 : Int32) (m : gM) (o : gM × Int32) (h : fX5_succeeds p1 m = some o)  : gMet l G u yX5_succeeds (.code yX5_succeeds cX5_succeeds 7 (some .boolean)) rmX5_succeeds [.ref 0, .int p1] m o.1 (some (.int o.2)) := by
  refine gMet_of (own := RX5) (k := 5) (by decide) rfl ⟨rfl, rfl⟩ (Nat.le_of_ble_eq_true rfl) [some (.ref 0), some (.int p1), none, none, none, none, none] rfl (fun Y hG hu hnL hLn hRm he => ?_)
  subst hG hu hLn
  unfold fX5_succeeds at h
  refine r_iload_n (pc := 0) dX5_succeeds_0 rfl rfl ?_
  refine r_sipush (pc := 1) (v := 10000) dX5_succeeds_1 (by decide) ?_
  refine r_idivc (pc := 4) dX5_succeeds_4 (by decide) ?_
  refine r_bipush (pc := 5) (v := 10) dX5_succeeds_5 (by decide) ?_
  refine r_iremc (pc := 7) dX5_succeeds_7 (by decide) ?_
  refine r_istore_nL (pc := 8) dX5_succeeds_8 rfl (by rw [hnL]; decide) h (fun x1 h => ?_)
  refine r_iload_n (pc := 9) dX5_succeeds_9 rfl rfl ?_
  refine r_sipush (pc := 10) (v := 1000) dX5_succeeds_10 (by decide) ?_
  refine r_idivc (pc := 13) dX5_succeeds_13 (by decide) ?_
  refine r_bipush (pc := 14) (v := 10) dX5_succeeds_14 (by decide) ?_
  refine r_iremc (pc := 16) dX5_succeeds_16 (by decide) ?_
  refine r_istore_nL (pc := 17) dX5_succeeds_17 rfl (by rw [hnL]; decide) h (fun x2 h => ?_)
  refine r_iload_n (pc := 18) dX5_succeeds_18 rfl rfl ?_
  refine r_bipush (pc := 19) (v := 100) dX5_succeeds_19 (by decide) ?_
  refine r_idivc (pc := 21) dX5_succeeds_21 (by decide) ?_
  refine r_bipush (pc := 22) (v := 100) dX5_succeeds_22 (by decide) ?_
  refine r_iremc (pc := 24) dX5_succeeds_24 (by decide) ?_
  refine r_istoreL (pc := 25) dX5_succeeds_25 (by rw [hnL]; decide) h (fun x3 h => ?_)
  refine r_iload_n (pc := 27) dX5_succeeds_27 rfl rfl ?_
  refine r_bipush (pc := 28) (v := 10) dX5_succeeds_28 (by decide) ?_
  refine r_iremc (pc := 30) dX5_succeeds_30 (by decide) ?_
  refine r_istoreL (pc := 31) dX5_succeeds_31 (by rw [hnL]; decide) h (fun x4 h => ?_)
  refine r_iload_n (pc := 33) dX5_succeeds_33 rfl rfl ?_
  refine r_bipush (pc := 34) (v := 100) dX5_succeeds_34 (by decide) ?_
  refine r_iremc (pc := 36) dX5_succeeds_36 (by decide) ?_
  refine r_istoreL (pc := 37) dX5_succeeds_37 (by rw [hnL]; decide) h (fun x5 h => ?_)
  refine r_iload_n (pc := 39) dX5_succeeds_39 rfl rfl ?_
  refine r_ldc (pc := 40) (v := 100000) dX5_succeeds_40 cX5_232 ?_
  refine r_idivc (pc := 42) dX5_succeeds_42 (by decide) ?_
  refine r_sw h (fun g6 h => ?_) (fun g6 h => ?_)
  · refine r_tabIn (pc := 43) (tgt := 92) (v := 1) dX5_succeeds_43 g6 (by decide) (by decide) rfl (by decide) ?_
    refine r_iload_n (pc := 92) dX5_succeeds_92 rfl rfl ?_
    refine r_if_ne (pc := 93) (tgt := 122) dX5_succeeds_93 (by decide) h (fun h => ?_) (fun h => ?_)
    · refine r_iconst (pc := 122) (v := 0) dX5_succeeds_122 (by decide) ?_
      exact r_zretH dX5_succeeds_123 rfl h he
    · refine r_iload (pc := 96) dX5_succeeds_96 rfl ?_
      refine r_if_ne (pc := 98) (tgt := 122) dX5_succeeds_98 (by decide) h (fun h => ?_) (fun h => ?_)
      · refine r_iconst (pc := 122) (v := 0) dX5_succeeds_122 (by decide) ?_
        exact r_zretH dX5_succeeds_123 rfl h he
      · refine r_aload_n (pc := 101) dX5_succeeds_101 rfl rfl ?_
        refine fX5_23 (pc := 102) hF dX5_succeeds_102 (fun b7 => ?_)
        refine r_bipush (pc := 105) (v := 7) dX5_succeeds_105 (by decide) ?_
        refine r_iload (pc := 107) dX5_succeeds_107 rfl ?_
        refine r_iconst (pc := 109) (v := 0) dX5_succeeds_109 (by decide) ?_
        refine r_iconst (pc := 110) (v := 0) dX5_succeeds_110 (by decide) ?_
        obtain ⟨m8, x9, q10, h⟩ := gCl_some h
        refine r_callVN (kd := 0) (pc := 111) [.int _, .int _, .int _, .int _] (tX0_perform _ _ _ hF _ _ _ _ _ _ _ q10 b7) ⟨rfl, rfl⟩ cd_X0_perform wX5_229 nm_X0_perform rfl (by rw [hRm]; decide) rfl (Nat.le_of_ble_eq_true rfl) rfl (by decide) b7 dX5_succeeds_111 ?_
        refine r_iconst (pc := 114) (v := (-1)) dX5_succeeds_114 (by decide) ?_
        refine r_icmp_eq (pc := 115) (tgt := 122) dX5_succeeds_115 (by decide) h (fun h => ?_) (fun h => ?_)
        · refine r_iconst (pc := 122) (v := 0) dX5_succeeds_122 (by decide) ?_
          exact r_zretH dX5_succeeds_123 rfl h he
        · refine r_iconst (pc := 118) (v := 1) dX5_succeeds_118 (by decide) ?_
          refine r_goto (pc := 119) (tgt := 123) dX5_succeeds_119 (by decide) ?_
          exact r_zretH dX5_succeeds_123 rfl h he
  refine r_sw h (fun g11 h => ?_) (fun g11 h => ?_)
  · refine r_tabIn (pc := 43) (tgt := 124) (v := 2) dX5_succeeds_43 g11 (by decide) (by decide) rfl (by decide) ?_
    refine r_iload (pc := 124) dX5_succeeds_124 rfl ?_
    refine r_if_ne (pc := 126) (tgt := 152) dX5_succeeds_126 (by decide) h (fun h => ?_) (fun h => ?_)
    · refine r_iconst (pc := 152) (v := 0) dX5_succeeds_152 (by decide) ?_
      exact r_zretH dX5_succeeds_153 rfl h he
    · refine r_aload_n (pc := 129) dX5_succeeds_129 rfl rfl ?_
      refine fX5_23 (pc := 130) hF dX5_succeeds_130 (fun b12 => ?_)
      refine r_iconst (pc := 133) (v := 1) dX5_succeeds_133 (by decide) ?_
      refine r_iload_n (pc := 134) dX5_succeeds_134 rfl rfl ?_
      refine r_iload_n (pc := 135) dX5_succeeds_135 rfl rfl ?_
      refine r_iload (pc := 136) dX5_succeeds_136 rfl ?_
      refine r_bipush (pc := 138) (v := 10) dX5_succeeds_138 (by decide) ?_
      refine r_iremc (pc := 140) dX5_succeeds_140 (by decide) ?_
      obtain ⟨m13, x14, q15, h⟩ := gCl_some h
      refine r_callVN (kd := 0) (pc := 141) [.int _, .int _, .int _, .int _] (tX0_perform _ _ _ hF _ _ _ _ _ _ _ q15 b12) ⟨rfl, rfl⟩ cd_X0_perform wX5_229 nm_X0_perform rfl (by rw [hRm]; decide) rfl (Nat.le_of_ble_eq_true rfl) rfl (by decide) b12 dX5_succeeds_141 ?_
      refine r_iconst (pc := 144) (v := (-1)) dX5_succeeds_144 (by decide) ?_
      refine r_icmp_eq (pc := 145) (tgt := 152) dX5_succeeds_145 (by decide) h (fun h => ?_) (fun h => ?_)
      · refine r_iconst (pc := 152) (v := 0) dX5_succeeds_152 (by decide) ?_
        exact r_zretH dX5_succeeds_153 rfl h he
      · refine r_iconst (pc := 148) (v := 1) dX5_succeeds_148 (by decide) ?_
        refine r_goto (pc := 149) (tgt := 153) dX5_succeeds_149 (by decide) ?_
        exact r_zretH dX5_succeeds_153 rfl h he
  refine r_sw h (fun g16 h => ?_) (fun g16 h => ?_)
  · refine r_tabIn (pc := 43) (tgt := 154) (v := 3) dX5_succeeds_43 g16 (by decide) (by decide) rfl (by decide) ?_
    refine r_aload_n (pc := 154) dX5_succeeds_154 rfl rfl ?_
    refine fX5_23 (pc := 155) hF dX5_succeeds_155 (fun b17 => ?_)
    refine r_iconst (pc := 158) (v := 2) dX5_succeeds_158 (by decide) ?_
    refine r_iload_n (pc := 159) dX5_succeeds_159 rfl rfl ?_
    refine r_iload (pc := 160) dX5_succeeds_160 rfl ?_
    refine r_iload (pc := 162) dX5_succeeds_162 rfl ?_
    obtain ⟨m18, x19, q20, h⟩ := gCl_some h
    refine r_callVN (kd := 0) (pc := 164) [.int _, .int _, .int _, .int _] (tX0_perform _ _ _ hF _ _ _ _ _ _ _ q20 b17) ⟨rfl, rfl⟩ cd_X0_perform wX5_229 nm_X0_perform rfl (by rw [hRm]; decide) rfl (Nat.le_of_ble_eq_true rfl) rfl (by decide) b17 dX5_succeeds_164 ?_
    refine r_iconst (pc := 167) (v := (-1)) dX5_succeeds_167 (by decide) ?_
    refine r_icmp_eq (pc := 168) (tgt := 175) dX5_succeeds_168 (by decide) h (fun h => ?_) (fun h => ?_)
    · refine r_iconst (pc := 175) (v := 0) dX5_succeeds_175 (by decide) ?_
      exact r_zretH dX5_succeeds_176 rfl h he
    · refine r_iconst (pc := 171) (v := 1) dX5_succeeds_171 (by decide) ?_
      refine r_goto (pc := 172) (tgt := 176) dX5_succeeds_172 (by decide) ?_
      exact r_zretH dX5_succeeds_176 rfl h he
  refine r_sw h (fun g21 h => ?_) (fun g21 h => ?_)
  · refine r_tabIn (pc := 43) (tgt := 177) (v := 4) dX5_succeeds_43 g21 (by decide) (by decide) rfl (by decide) ?_
    refine r_iload_n (pc := 177) dX5_succeeds_177 rfl rfl ?_
    refine r_bipush (pc := 178) (v := 10) dX5_succeeds_178 (by decide) ?_
    refine r_idivc (pc := 180) dX5_succeeds_180 (by decide) ?_
    refine r_bipush (pc := 181) (v := 100) dX5_succeeds_181 (by decide) ?_
    refine r_iremc (pc := 183) dX5_succeeds_183 (by decide) ?_
    refine r_if_ne (pc := 184) (tgt := 213) dX5_succeeds_184 (by decide) h (fun h => ?_) (fun h => ?_)
    · refine r_iconst (pc := 213) (v := 0) dX5_succeeds_213 (by decide) ?_
      exact r_zretH dX5_succeeds_214 rfl h he
    · refine r_iload (pc := 187) dX5_succeeds_187 rfl ?_
      refine r_iconst (pc := 189) (v := 1) dX5_succeeds_189 (by decide) ?_
      refine r_icmp_gt (pc := 190) (tgt := 213) dX5_succeeds_190 (by decide) h (fun h => ?_) (fun h => ?_)
      · refine r_iconst (pc := 213) (v := 0) dX5_succeeds_213 (by decide) ?_
        exact r_zretH dX5_succeeds_214 rfl h he
      · refine r_aload_n (pc := 193) dX5_succeeds_193 rfl rfl ?_
        refine fX5_23 (pc := 194) hF dX5_succeeds_194 (fun b22 => ?_)
        refine r_iconst (pc := 197) (v := 4) dX5_succeeds_197 (by decide) ?_
        refine r_iload_n (pc := 198) dX5_succeeds_198 rfl rfl ?_
        refine r_iload_n (pc := 199) dX5_succeeds_199 rfl rfl ?_
        refine r_iload (pc := 200) dX5_succeeds_200 rfl ?_
        obtain ⟨m23, x24, q25, h⟩ := gCl_some h
        refine r_callVN (kd := 0) (pc := 202) [.int _, .int _, .int _, .int _] (tX0_perform _ _ _ hF _ _ _ _ _ _ _ q25 b22) ⟨rfl, rfl⟩ cd_X0_perform wX5_229 nm_X0_perform rfl (by rw [hRm]; decide) rfl (Nat.le_of_ble_eq_true rfl) rfl (by decide) b22 dX5_succeeds_202 ?_
        refine r_iconst (pc := 205) (v := (-1)) dX5_succeeds_205 (by decide) ?_
        refine r_icmp_eq (pc := 206) (tgt := 213) dX5_succeeds_206 (by decide) h (fun h => ?_) (fun h => ?_)
        · refine r_iconst (pc := 213) (v := 0) dX5_succeeds_213 (by decide) ?_
          exact r_zretH dX5_succeeds_214 rfl h he
        · refine r_iconst (pc := 209) (v := 1) dX5_succeeds_209 (by decide) ?_
          refine r_goto (pc := 210) (tgt := 214) dX5_succeeds_210 (by decide) ?_
          exact r_zretH dX5_succeeds_214 rfl h he
  refine r_sw h (fun g26 h => ?_) (fun g26 h => ?_)
  · refine r_tabIn (pc := 43) (tgt := 215) (v := 5) dX5_succeeds_43 g26 (by decide) (by decide) rfl (by decide) ?_
    refine r_iload_n (pc := 215) dX5_succeeds_215 rfl rfl ?_
    refine r_sipush (pc := 216) (v := 1000) dX5_succeeds_216 (by decide) ?_
    refine r_iremc (pc := 219) dX5_succeeds_219 (by decide) ?_
    refine r_if_ne (pc := 220) (tgt := 242) dX5_succeeds_220 (by decide) h (fun h => ?_) (fun h => ?_)
    · refine r_iconst (pc := 242) (v := 0) dX5_succeeds_242 (by decide) ?_
      exact r_zretH dX5_succeeds_243 rfl h he
    · refine r_aload_n (pc := 223) dX5_succeeds_223 rfl rfl ?_
      refine fX5_23 (pc := 224) hF dX5_succeeds_224 (fun b27 => ?_)
      refine r_iconst (pc := 227) (v := 5) dX5_succeeds_227 (by decide) ?_
      refine r_iload_n (pc := 228) dX5_succeeds_228 rfl rfl ?_
      refine r_iload_n (pc := 229) dX5_succeeds_229 rfl rfl ?_
      refine r_iconst (pc := 230) (v := 0) dX5_succeeds_230 (by decide) ?_
      obtain ⟨m28, x29, q30, h⟩ := gCl_some h
      refine r_callVN (kd := 0) (pc := 231) [.int _, .int _, .int _, .int _] (tX0_perform _ _ _ hF _ _ _ _ _ _ _ q30 b27) ⟨rfl, rfl⟩ cd_X0_perform wX5_229 nm_X0_perform rfl (by rw [hRm]; decide) rfl (Nat.le_of_ble_eq_true rfl) rfl (by decide) b27 dX5_succeeds_231 ?_
      refine r_iconst (pc := 234) (v := (-1)) dX5_succeeds_234 (by decide) ?_
      refine r_icmp_eq (pc := 235) (tgt := 242) dX5_succeeds_235 (by decide) h (fun h => ?_) (fun h => ?_)
      · refine r_iconst (pc := 242) (v := 0) dX5_succeeds_242 (by decide) ?_
        exact r_zretH dX5_succeeds_243 rfl h he
      · refine r_iconst (pc := 238) (v := 1) dX5_succeeds_238 (by decide) ?_
        refine r_goto (pc := 239) (tgt := 243) dX5_succeeds_239 (by decide) ?_
        exact r_zretH dX5_succeeds_243 rfl h he
  refine r_sw h (fun g31 h => ?_) (fun g31 h => ?_)
  · refine r_tabIn (pc := 43) (tgt := 244) (v := 6) dX5_succeeds_43 g31 (by decide) (by decide) rfl (by decide) ?_
    refine r_iload (pc := 244) dX5_succeeds_244 rfl ?_
    refine r_if_ne (pc := 246) (tgt := 270) dX5_succeeds_246 (by decide) h (fun h => ?_) (fun h => ?_)
    · refine r_iconst (pc := 270) (v := 0) dX5_succeeds_270 (by decide) ?_
      exact r_zretH dX5_succeeds_271 rfl h he
    · refine r_aload_n (pc := 249) dX5_succeeds_249 rfl rfl ?_
      refine fX5_23 (pc := 250) hF dX5_succeeds_250 (fun b32 => ?_)
      refine r_bipush (pc := 253) (v := 6) dX5_succeeds_253 (by decide) ?_
      refine r_iload_n (pc := 255) dX5_succeeds_255 rfl rfl ?_
      refine r_iload (pc := 256) dX5_succeeds_256 rfl ?_
      refine r_iconst (pc := 258) (v := 0) dX5_succeeds_258 (by decide) ?_
      obtain ⟨m33, x34, q35, h⟩ := gCl_some h
      refine r_callVN (kd := 0) (pc := 259) [.int _, .int _, .int _, .int _] (tX0_perform _ _ _ hF _ _ _ _ _ _ _ q35 b32) ⟨rfl, rfl⟩ cd_X0_perform wX5_229 nm_X0_perform rfl (by rw [hRm]; decide) rfl (Nat.le_of_ble_eq_true rfl) rfl (by decide) b32 dX5_succeeds_259 ?_
      refine r_iconst (pc := 262) (v := (-1)) dX5_succeeds_262 (by decide) ?_
      refine r_icmp_eq (pc := 263) (tgt := 270) dX5_succeeds_263 (by decide) h (fun h => ?_) (fun h => ?_)
      · refine r_iconst (pc := 270) (v := 0) dX5_succeeds_270 (by decide) ?_
        exact r_zretH dX5_succeeds_271 rfl h he
      · refine r_iconst (pc := 266) (v := 1) dX5_succeeds_266 (by decide) ?_
        refine r_goto (pc := 267) (tgt := 271) dX5_succeeds_267 (by decide) ?_
        exact r_zretH dX5_succeeds_271 rfl h he
  refine r_sw h (fun g36 h => ?_) (fun g36 h => ?_)
  · refine r_tabIn (pc := 43) (tgt := 272) (v := 7) dX5_succeeds_43 g36 (by decide) (by decide) rfl (by decide) ?_
    refine r_iload (pc := 272) dX5_succeeds_272 rfl ?_
    refine r_if_ne (pc := 274) (tgt := 309) dX5_succeeds_274 (by decide) h (fun h => ?_) (fun h => ?_)
    · refine r_iconst (pc := 309) (v := 0) dX5_succeeds_309 (by decide) ?_
      exact r_zretH dX5_succeeds_310 rfl h he
    · refine r_aload_n (pc := 277) dX5_succeeds_277 rfl rfl ?_
      refine fX5_23 (pc := 278) hF dX5_succeeds_278 (fun b37 => ?_)
      refine r_iload_n (pc := 281) dX5_succeeds_281 rfl rfl ?_
      obtain ⟨m38, x39, q40, h⟩ := gCl_some h
      refine r_callVN (kd := 0) (pc := 282) [.int _] (tX0_hasCustomer _ _ _ hF _ _ _ _ q40 b37) ⟨rfl, rfl⟩ cd_X0_hasCustomer wX5_84 nm_X0_hasCustomer rfl (by rw [hRm]; decide) rfl (Nat.le_of_ble_eq_true rfl) rfl (by decide) b37 dX5_succeeds_282 ?_
      refine r_if_eq (pc := 285) (tgt := 309) dX5_succeeds_285 (by decide) h (fun h => ?_) (fun h => ?_)
      · refine r_iconst (pc := 309) (v := 0) dX5_succeeds_309 (by decide) ?_
        exact r_zretH dX5_succeeds_310 rfl h he
      · refine r_aload_n (pc := 288) dX5_succeeds_288 rfl rfl ?_
        refine fX5_23 (pc := 289) hF dX5_succeeds_289 (fun b41 => ?_)
        refine fX5_91 (pc := 292) hF dX5_succeeds_292 b41 (fun b42 => ?_)
        refine r_iload_n (pc := 295) dX5_succeeds_295 rfl rfl ?_
        refine r_cust (pc := 296) hF dX5_succeeds_296 b42 h (fun c43 b44 h => ?_)
        refine fX5_167 (pc := 297) dX5_succeeds_297 b44 h (fun x45 h => ?_)
        refine r_iload (pc := 300) dX5_succeeds_300 rfl ?_
        refine r_icmp_gt (pc := 302) (tgt := 309) dX5_succeeds_302 (by decide) h (fun h => ?_) (fun h => ?_)
        · refine r_iconst (pc := 309) (v := 0) dX5_succeeds_309 (by decide) ?_
          exact r_zretH dX5_succeeds_310 rfl h he
        · refine r_iconst (pc := 305) (v := 1) dX5_succeeds_305 (by decide) ?_
          refine r_goto (pc := 306) (tgt := 310) dX5_succeeds_306 (by decide) ?_
          exact r_zretH dX5_succeeds_310 rfl h he
  refine r_sw h (fun g46 h => ?_) (fun g46 h => ?_)
  · refine r_tabIn (pc := 43) (tgt := 311) (v := 8) dX5_succeeds_43 g46 (by decide) (by decide) rfl (by decide) ?_
    refine r_iload_n (pc := 311) dX5_succeeds_311 rfl rfl ?_
    refine r_bipush (pc := 312) (v := 10) dX5_succeeds_312 (by decide) ?_
    refine r_idivc (pc := 314) dX5_succeeds_314 (by decide) ?_
    refine r_sipush (pc := 315) (v := 1000) dX5_succeeds_315 (by decide) ?_
    refine r_iremc (pc := 318) dX5_succeeds_318 (by decide) ?_
    refine r_if_ne (pc := 319) (tgt := 350) dX5_succeeds_319 (by decide) h (fun h => ?_) (fun h => ?_)
    · refine r_iconst (pc := 350) (v := 0) dX5_succeeds_350 (by decide) ?_
      exact r_zretH dX5_succeeds_351 rfl h he
    · refine r_aload_n (pc := 322) dX5_succeeds_322 rfl rfl ?_
      refine fX5_23 (pc := 323) hF dX5_succeeds_323 (fun b47 => ?_)
      refine r_iload_n (pc := 326) dX5_succeeds_326 rfl rfl ?_
      obtain ⟨m48, x49, q50, h⟩ := gCl_some h
      refine r_callVN (kd := 0) (pc := 327) [.int _] (tX0_hasCustomer _ _ _ hF _ _ _ _ q50 b47) ⟨rfl, rfl⟩ cd_X0_hasCustomer wX5_84 nm_X0_hasCustomer rfl (by rw [hRm]; decide) rfl (Nat.le_of_ble_eq_true rfl) rfl (by decide) b47 dX5_succeeds_327 ?_
      refine r_if_eq (pc := 330) (tgt := 350) dX5_succeeds_330 (by decide) h (fun h => ?_) (fun h => ?_)
      · refine r_iconst (pc := 350) (v := 0) dX5_succeeds_350 (by decide) ?_
        exact r_zretH dX5_succeeds_351 rfl h he
      · refine r_aload_n (pc := 333) dX5_succeeds_333 rfl rfl ?_
        refine fX5_23 (pc := 334) hF dX5_succeeds_334 (fun b51 => ?_)
        refine r_iload_n (pc := 337) dX5_succeeds_337 rfl rfl ?_
        obtain ⟨m52, x53, q54, h⟩ := gCl_some h
        refine r_callVN (kd := 0) (pc := 338) [.int _] (tX0_reasonFor _ _ _ hF _ _ _ _ q54 b51) ⟨rfl, rfl⟩ cd_X0_reasonFor wX5_157 nm_X0_reasonFor rfl (by rw [hRm]; decide) rfl (Nat.le_of_ble_eq_true rfl) rfl (by decide) b51 dX5_succeeds_338 ?_
        refine r_iload (pc := 341) dX5_succeeds_341 rfl ?_
        refine r_icmp_ne (pc := 343) (tgt := 350) dX5_succeeds_343 (by decide) h (fun h => ?_) (fun h => ?_)
        · refine r_iconst (pc := 350) (v := 0) dX5_succeeds_350 (by decide) ?_
          exact r_zretH dX5_succeeds_351 rfl h he
        · refine r_iconst (pc := 346) (v := 1) dX5_succeeds_346 (by decide) ?_
          refine r_goto (pc := 347) (tgt := 351) dX5_succeeds_347 (by decide) ?_
          exact r_zretH dX5_succeeds_351 rfl h he
  refine r_sw h (fun g55 h => ?_) (fun g55 h => ?_)
  · refine r_tabIn (pc := 43) (tgt := 352) (v := 9) dX5_succeeds_43 g55 (by decide) (by decide) rfl (by decide) ?_
    refine r_iload_n (pc := 352) dX5_succeeds_352 rfl rfl ?_
    refine r_if_ne (pc := 353) (tgt := 375) dX5_succeeds_353 (by decide) h (fun h => ?_) (fun h => ?_)
    · refine r_iconst (pc := 375) (v := 0) dX5_succeeds_375 (by decide) ?_
      exact r_zretH dX5_succeeds_376 rfl h he
    · refine r_aload_n (pc := 356) dX5_succeeds_356 rfl rfl ?_
      refine fX5_23 (pc := 357) hF dX5_succeeds_357 (fun b56 => ?_)
      obtain ⟨m57, x58, q59, h⟩ := gCl_some h
      refine r_callVN (kd := 0) (pc := 360) [] (tX0_loavesGot _ _ _ hF _ _ _ q59 b56) ⟨rfl, rfl⟩ cd_X0_loavesGot wX5_233 nm_X0_loavesGot rfl (by rw [hRm]; decide) rfl (Nat.le_of_ble_eq_true rfl) rfl (by decide) b56 dX5_succeeds_360 ?_
      refine r_iload_n (pc := 363) dX5_succeeds_363 rfl rfl ?_
      refine r_sipush (pc := 364) (v := 10000) dX5_succeeds_364 (by decide) ?_
      refine r_iremc (pc := 367) dX5_succeeds_367 (by decide) ?_
      refine r_icmp_lt (pc := 368) (tgt := 375) dX5_succeeds_368 (by decide) h (fun h => ?_) (fun h => ?_)
      · refine r_iconst (pc := 375) (v := 0) dX5_succeeds_375 (by decide) ?_
        exact r_zretH dX5_succeeds_376 rfl h he
      · refine r_iconst (pc := 371) (v := 1) dX5_succeeds_371 (by decide) ?_
        refine r_goto (pc := 372) (tgt := 376) dX5_succeeds_372 (by decide) ?_
        exact r_zretH dX5_succeeds_376 rfl h he
  have g6n := gNe g6 (z := 1) (by decide)
  have g11n := gNe g11 (z := 2) (by decide)
  have g16n := gNe g16 (z := 3) (by decide)
  have g21n := gNe g21 (z := 4) (by decide)
  have g26n := gNe g26 (z := 5) (by decide)
  have g31n := gNe g31 (z := 6) (by decide)
  have g36n := gNe g36 (z := 7) (by decide)
  have g46n := gNe g46 (z := 8) (by decide)
  have g55n := gNe g55 (z := 9) (by decide)
  refine r_tabOut (pc := 43) (tgt := 377) dX5_succeeds_43 (by omega) (by decide) ?_
  refine r_iconst (pc := 377) (v := 0) dX5_succeeds_377 (by decide) ?_
  exact r_zretH dX5_succeeds_378 rfl h he
set_option maxHeartbeats 4000000 in
set_option maxRecDepth 100000 in
theorem tX5_takeTurn (l : Launch) (G : gX) (u : gU) (hF : gFull u) (p1 : Int32) (m : gM) (o : gM) (h : fX5_takeTurn p1 m = some o)  : gMet l G u yX5_takeTurn (.code yX5_takeTurn cX5_takeTurn 4 none) rmX5_takeTurn [.ref 0, .int p1] m o none := by
  refine gMet_of (own := RX5) (k := 2) (by decide) rfl ⟨rfl, rfl⟩ (Nat.le_of_ble_eq_true rfl) [some (.ref 0), some (.int p1), none, none] rfl (fun Y hG hu hnL hLn hRm he => ?_)
  subst hG hu hLn
  unfold fX5_takeTurn at h
  refine r_iload_n (pc := 0) dX5_takeTurn_0 rfl rfl ?_
  refine r_bipush (pc := 1) (v := 8) dX5_takeTurn_1 (by decide) ?_
  refine r_idivc (pc := 3) dX5_takeTurn_3 (by decide) ?_
  refine r_istore_nL (pc := 4) dX5_takeTurn_4 rfl (by rw [hnL]; decide) h (fun x1 h => ?_)
  refine r_iload_n (pc := 5) dX5_takeTurn_5 rfl rfl ?_
  refine r_bipush (pc := 6) (v := 8) dX5_takeTurn_6 (by decide) ?_
  refine r_iremc (pc := 8) dX5_takeTurn_8 (by decide) ?_
  refine r_sw h (fun g2 h => ?_) (fun g2 h => ?_)
  · refine r_tabIn (pc := 9) (tgt := 48) (v := 0) dX5_takeTurn_9 g2 (by decide) (by decide) rfl (by decide) ?_
    refine r_aload_n (pc := 48) dX5_takeTurn_48 rfl rfl ?_
    refine fX5_23 (pc := 49) hF dX5_takeTurn_49 (fun b3 => ?_)
    refine r_iconst (pc := 52) (v := 0) dX5_takeTurn_52 (by decide) ?_
    refine r_iload_n (pc := 53) dX5_takeTurn_53 rfl rfl ?_
    refine r_iconst (pc := 54) (v := 4) dX5_takeTurn_54 (by decide) ?_
    refine r_iremc (pc := 55) dX5_takeTurn_55 (by decide) ?_
    refine r_iload_n (pc := 56) dX5_takeTurn_56 rfl rfl ?_
    refine r_iconst (pc := 57) (v := 4) dX5_takeTurn_57 (by decide) ?_
    refine r_idivc (pc := 58) dX5_takeTurn_58 (by decide) ?_
    refine r_ldc (pc := 59) (v := 10000000) dX5_takeTurn_59 cX5_236 ?_
    refine r_iremc (pc := 61) dX5_takeTurn_61 (by decide) ?_
    refine r_iconst (pc := 62) (v := 0) dX5_takeTurn_62 (by decide) ?_
    obtain ⟨m4, x5, q6, h⟩ := gCl_some h
    refine r_callVN (kd := 0) (pc := 63) [.int _, .int _, .int _, .int _] (tX0_perform _ _ _ hF _ _ _ _ _ _ _ q6 b3) ⟨rfl, rfl⟩ cd_X0_perform wX5_229 nm_X0_perform rfl (by rw [hRm]; decide) rfl (Nat.le_of_ble_eq_true rfl) rfl (by decide) b3 dX5_takeTurn_63 ?_
    refine r_pop (pc := 66) dX5_takeTurn_66 rfl ?_
    refine r_goto (pc := 67) (tgt := 272) dX5_takeTurn_67 (by decide) ?_
    exact r_vretH dX5_takeTurn_272 h he
  refine r_sw h (fun g7 h => ?_) (fun g7 h => ?_)
  · refine r_tabIn (pc := 9) (tgt := 70) (v := 1) dX5_takeTurn_9 g7 (by decide) (by decide) rfl (by decide) ?_
    refine r_aload_n (pc := 70) dX5_takeTurn_70 rfl rfl ?_
    refine fX5_23 (pc := 71) hF dX5_takeTurn_71 (fun b8 => ?_)
    refine r_iconst (pc := 74) (v := 1) dX5_takeTurn_74 (by decide) ?_
    refine r_iload_n (pc := 75) dX5_takeTurn_75 rfl rfl ?_
    refine r_bipush (pc := 76) (v := 10) dX5_takeTurn_76 (by decide) ?_
    refine r_iremc (pc := 78) dX5_takeTurn_78 (by decide) ?_
    refine r_iload_n (pc := 79) dX5_takeTurn_79 rfl rfl ?_
    refine r_bipush (pc := 80) (v := 16) dX5_takeTurn_80 (by decide) ?_
    refine r_idivc (pc := 82) dX5_takeTurn_82 (by decide) ?_
    refine r_bipush (pc := 83) (v := 7) dX5_takeTurn_83 (by decide) ?_
    refine r_iremc (pc := 85) dX5_takeTurn_85 (by decide) ?_
    refine r_iload_n (pc := 86) dX5_takeTurn_86 rfl rfl ?_
    refine r_sipush (pc := 87) (v := 128) dX5_takeTurn_87 (by decide) ?_
    refine r_idivc (pc := 90) dX5_takeTurn_90 (by decide) ?_
    refine r_bipush (pc := 91) (v := 10) dX5_takeTurn_91 (by decide) ?_
    refine r_iremc (pc := 93) dX5_takeTurn_93 (by decide) ?_
    obtain ⟨m9, x10, q11, h⟩ := gCl_some h
    refine r_callVN (kd := 0) (pc := 94) [.int _, .int _, .int _, .int _] (tX0_perform _ _ _ hF _ _ _ _ _ _ _ q11 b8) ⟨rfl, rfl⟩ cd_X0_perform wX5_229 nm_X0_perform rfl (by rw [hRm]; decide) rfl (Nat.le_of_ble_eq_true rfl) rfl (by decide) b8 dX5_takeTurn_94 ?_
    refine r_pop (pc := 97) dX5_takeTurn_97 rfl ?_
    refine r_goto (pc := 98) (tgt := 272) dX5_takeTurn_98 (by decide) ?_
    exact r_vretH dX5_takeTurn_272 h he
  refine r_sw h (fun g12 h => ?_) (fun g12 h => ?_)
  · refine r_tabIn (pc := 9) (tgt := 101) (v := 2) dX5_takeTurn_9 g12 (by decide) (by decide) rfl (by decide) ?_
    refine r_aload_n (pc := 101) dX5_takeTurn_101 rfl rfl ?_
    refine fX5_23 (pc := 102) hF dX5_takeTurn_102 (fun b13 => ?_)
    refine fX5_95 (pc := 105) dX5_takeTurn_105 b13 h (fun x14 h => ?_)
    refine r_iload_n (pc := 108) dX5_takeTurn_108 rfl rfl ?_
    refine r_bipush (pc := 109) (v := 16) dX5_takeTurn_109 (by decide) ?_
    refine r_idivc (pc := 111) dX5_takeTurn_111 (by decide) ?_
    refine r_bipush (pc := 112) (v := 20) dX5_takeTurn_112 (by decide) ?_
    refine r_iremc (pc := 114) dX5_takeTurn_114 (by decide) ?_
    refine r_iadd (pc := 115) dX5_takeTurn_115 ?_
    refine r_istore_nL (pc := 116) dX5_takeTurn_116 rfl (by rw [hnL]; decide) h (fun x15 h => ?_)
    refine r_aload_n (pc := 117) dX5_takeTurn_117 rfl rfl ?_
    refine fX5_23 (pc := 118) hF dX5_takeTurn_118 (fun b16 => ?_)
    refine r_iconst (pc := 121) (v := 2) dX5_takeTurn_121 (by decide) ?_
    refine r_iload_n (pc := 122) dX5_takeTurn_122 rfl rfl ?_
    refine r_bipush (pc := 123) (v := 10) dX5_takeTurn_123 (by decide) ?_
    refine r_iremc (pc := 125) dX5_takeTurn_125 (by decide) ?_
    refine r_iload_n (pc := 126) dX5_takeTurn_126 rfl rfl ?_
    refine r_iload_n (pc := 127) dX5_takeTurn_127 rfl rfl ?_
    refine r_iload_n (pc := 128) dX5_takeTurn_128 rfl rfl ?_
    refine r_sipush (pc := 129) (v := 512) dX5_takeTurn_129 (by decide) ?_
    refine r_idivc (pc := 132) dX5_takeTurn_132 (by decide) ?_
    refine r_bipush (pc := 133) (v := 9) dX5_takeTurn_133 (by decide) ?_
    refine r_iremc (pc := 135) dX5_takeTurn_135 (by decide) ?_
    refine r_iadd (pc := 136) dX5_takeTurn_136 ?_
    obtain ⟨m17, x18, q19, h⟩ := gCl_some h
    refine r_callVN (kd := 0) (pc := 137) [.int _, .int _, .int _, .int _] (tX0_perform _ _ _ hF _ _ _ _ _ _ _ q19 b16) ⟨rfl, rfl⟩ cd_X0_perform wX5_229 nm_X0_perform rfl (by rw [hRm]; decide) rfl (Nat.le_of_ble_eq_true rfl) rfl (by decide) b16 dX5_takeTurn_137 ?_
    refine r_pop (pc := 140) dX5_takeTurn_140 rfl ?_
    refine r_goto (pc := 141) (tgt := 272) dX5_takeTurn_141 (by decide) ?_
    exact r_vretH dX5_takeTurn_272 h he
  refine r_sw h (fun g20 h => ?_) (fun g20 h => ?_)
  · refine r_tabIn (pc := 9) (tgt := 144) (v := 3) dX5_takeTurn_9 g20 (by decide) (by decide) rfl (by decide) ?_
    refine r_aload_n (pc := 144) dX5_takeTurn_144 rfl rfl ?_
    refine fX5_23 (pc := 145) hF dX5_takeTurn_145 (fun b21 => ?_)
    refine r_iconst (pc := 148) (v := 4) dX5_takeTurn_148 (by decide) ?_
    refine r_iload_n (pc := 149) dX5_takeTurn_149 rfl rfl ?_
    refine r_iconst (pc := 150) (v := 4) dX5_takeTurn_150 (by decide) ?_
    refine r_iremc (pc := 151) dX5_takeTurn_151 (by decide) ?_
    refine r_iload_n (pc := 152) dX5_takeTurn_152 rfl rfl ?_
    refine r_iconst (pc := 153) (v := 4) dX5_takeTurn_153 (by decide) ?_
    refine r_idivc (pc := 154) dX5_takeTurn_154 (by decide) ?_
    refine r_bipush (pc := 155) (v := 7) dX5_takeTurn_155 (by decide) ?_
    refine r_iremc (pc := 157) dX5_takeTurn_157 (by decide) ?_
    refine r_iload_n (pc := 158) dX5_takeTurn_158 rfl rfl ?_
    refine r_bipush (pc := 159) (v := 32) dX5_takeTurn_159 (by decide) ?_
    refine r_idivc (pc := 161) dX5_takeTurn_161 (by decide) ?_
    refine r_iconst (pc := 162) (v := 3) dX5_takeTurn_162 (by decide) ?_
    refine r_iremc (pc := 163) dX5_takeTurn_163 (by decide) ?_
    refine r_jn1 h (fun x22 => AW Y cX5_takeTurn RX5 172 [none, none, none, none] [.int x22, .int ((x1 / 4) - (x1 / 4) / 7 * 7), .int (x1 - x1 / 4 * 4), .int 4, .ref 436] m) (fun x22 h => ?_) (fun hJ23 => ?_)
    · obtain ⟨m25, x26, q27, h⟩ := gCl_some h
      refine r_callVN (kd := 0) (pc := 172) [.int _, .int _, .int _, .int _] (tX0_perform _ _ _ hF _ _ _ _ _ _ _ q27 b21) ⟨rfl, rfl⟩ cd_X0_perform wX5_229 nm_X0_perform rfl (by rw [hRm]; decide) rfl (Nat.le_of_ble_eq_true rfl) rfl (by decide) b21 dX5_takeTurn_172 ?_
      refine r_pop (pc := 175) dX5_takeTurn_175 rfl ?_
      refine r_goto (pc := 176) (tgt := 272) dX5_takeTurn_176 (by decide) ?_
      exact r_vretH dX5_takeTurn_272 h he
    · refine r_ifC_ne (pc := 164) (tgt := 171) dX5_takeTurn_164 (by decide) (fun g24 => ?_) (fun g24 => ?_)
      · refine r_iconst (pc := 171) (v := 0) dX5_takeTurn_171 (by decide) ?_
        exact r_mask [false, false, false, false] rfl (hJ23 _ (by rw [if_neg g24]))
      · refine r_iconst (pc := 167) (v := 1) dX5_takeTurn_167 (by decide) ?_
        refine r_goto (pc := 168) (tgt := 172) dX5_takeTurn_168 (by decide) ?_
        exact r_mask [false, false, false, false] rfl (hJ23 _ (by rw [if_pos g24]))
  refine r_sw h (fun g28 h => ?_) (fun g28 h => ?_)
  · refine r_tabIn (pc := 9) (tgt := 179) (v := 4) dX5_takeTurn_9 g28 (by decide) (by decide) rfl (by decide) ?_
    refine r_aload_n (pc := 179) dX5_takeTurn_179 rfl rfl ?_
    refine fX5_23 (pc := 180) hF dX5_takeTurn_180 (fun b29 => ?_)
    refine r_iconst (pc := 183) (v := 5) dX5_takeTurn_183 (by decide) ?_
    refine r_iload_n (pc := 184) dX5_takeTurn_184 rfl rfl ?_
    refine r_iconst (pc := 185) (v := 4) dX5_takeTurn_185 (by decide) ?_
    refine r_iremc (pc := 186) dX5_takeTurn_186 (by decide) ?_
    refine r_iload_n (pc := 187) dX5_takeTurn_187 rfl rfl ?_
    refine r_iconst (pc := 188) (v := 4) dX5_takeTurn_188 (by decide) ?_
    refine r_idivc (pc := 189) dX5_takeTurn_189 (by decide) ?_
    refine r_iconst (pc := 190) (v := 4) dX5_takeTurn_190 (by decide) ?_
    refine r_iremc (pc := 191) dX5_takeTurn_191 (by decide) ?_
    refine r_iconst (pc := 192) (v := 0) dX5_takeTurn_192 (by decide) ?_
    obtain ⟨m30, x31, q32, h⟩ := gCl_some h
    refine r_callVN (kd := 0) (pc := 193) [.int _, .int _, .int _, .int _] (tX0_perform _ _ _ hF _ _ _ _ _ _ _ q32 b29) ⟨rfl, rfl⟩ cd_X0_perform wX5_229 nm_X0_perform rfl (by rw [hRm]; decide) rfl (Nat.le_of_ble_eq_true rfl) rfl (by decide) b29 dX5_takeTurn_193 ?_
    refine r_pop (pc := 196) dX5_takeTurn_196 rfl ?_
    refine r_goto (pc := 197) (tgt := 272) dX5_takeTurn_197 (by decide) ?_
    exact r_vretH dX5_takeTurn_272 h he
  refine r_sw h (fun g33 h => ?_) (fun g33 h => ?_)
  · refine r_tabIn (pc := 9) (tgt := 200) (v := 5) dX5_takeTurn_9 g33 (by decide) (by decide) rfl (by decide) ?_
    refine r_iload_n (pc := 200) dX5_takeTurn_200 rfl rfl ?_
    refine r_sipush (pc := 201) (v := 128) dX5_takeTurn_201 (by decide) ?_
    refine r_idivc (pc := 204) dX5_takeTurn_204 (by decide) ?_
    refine r_iconst (pc := 205) (v := 2) dX5_takeTurn_205 (by decide) ?_
    refine r_iremc (pc := 206) dX5_takeTurn_206 (by decide) ?_
    refine r_if_ne (pc := 207) (tgt := 229) dX5_takeTurn_207 (by decide) h (fun h => ?_) (fun h => ?_)
    · refine r_aload_n (pc := 229) dX5_takeTurn_229 rfl rfl ?_
      refine fX5_23 (pc := 230) hF dX5_takeTurn_230 (fun b34 => ?_)
      refine r_bipush (pc := 233) (v := 6) dX5_takeTurn_233 (by decide) ?_
      refine r_iconst (pc := 235) (v := 1) dX5_takeTurn_235 (by decide) ?_
      refine r_iload_n (pc := 236) dX5_takeTurn_236 rfl rfl ?_
      refine r_iconst (pc := 237) (v := 3) dX5_takeTurn_237 (by decide) ?_
      refine r_iremc (pc := 238) dX5_takeTurn_238 (by decide) ?_
      refine r_iadd (pc := 239) dX5_takeTurn_239 ?_
      refine r_iload_n (pc := 240) dX5_takeTurn_240 rfl rfl ?_
      refine r_iconst (pc := 241) (v := 4) dX5_takeTurn_241 (by decide) ?_
      refine r_idivc (pc := 242) dX5_takeTurn_242 (by decide) ?_
      refine r_bipush (pc := 243) (v := 10) dX5_takeTurn_243 (by decide) ?_
      refine r_iremc (pc := 245) dX5_takeTurn_245 (by decide) ?_
      refine r_iconst (pc := 246) (v := 0) dX5_takeTurn_246 (by decide) ?_
      obtain ⟨m35, x36, q37, h⟩ := gCl_some h
      refine r_callVN (kd := 0) (pc := 247) [.int _, .int _, .int _, .int _] (tX0_perform _ _ _ hF _ _ _ _ _ _ _ q37 b34) ⟨rfl, rfl⟩ cd_X0_perform wX5_229 nm_X0_perform rfl (by rw [hRm]; decide) rfl (Nat.le_of_ble_eq_true rfl) rfl (by decide) b34 dX5_takeTurn_247 ?_
      refine r_pop (pc := 250) dX5_takeTurn_250 rfl ?_
      refine r_goto (pc := 251) (tgt := 272) dX5_takeTurn_251 (by decide) ?_
      exact r_vretH dX5_takeTurn_272 h he
    · refine r_aload_n (pc := 210) dX5_takeTurn_210 rfl rfl ?_
      refine fX5_23 (pc := 211) hF dX5_takeTurn_211 (fun b38 => ?_)
      refine r_bipush (pc := 214) (v := 6) dX5_takeTurn_214 (by decide) ?_
      refine r_iconst (pc := 216) (v := 0) dX5_takeTurn_216 (by decide) ?_
      refine r_iload_n (pc := 217) dX5_takeTurn_217 rfl rfl ?_
      refine r_bipush (pc := 218) (v := 100) dX5_takeTurn_218 (by decide) ?_
      refine r_iremc (pc := 220) dX5_takeTurn_220 (by decide) ?_
      refine r_iconst (pc := 221) (v := 0) dX5_takeTurn_221 (by decide) ?_
      obtain ⟨m39, x40, q41, h⟩ := gCl_some h
      refine r_callVN (kd := 0) (pc := 222) [.int _, .int _, .int _, .int _] (tX0_perform _ _ _ hF _ _ _ _ _ _ _ q41 b38) ⟨rfl, rfl⟩ cd_X0_perform wX5_229 nm_X0_perform rfl (by rw [hRm]; decide) rfl (Nat.le_of_ble_eq_true rfl) rfl (by decide) b38 dX5_takeTurn_222 ?_
      refine r_pop (pc := 225) dX5_takeTurn_225 rfl ?_
      refine r_goto (pc := 226) (tgt := 272) dX5_takeTurn_226 (by decide) ?_
      exact r_vretH dX5_takeTurn_272 h he
  have g2n := gNe g2 (z := 0) (by decide)
  have g7n := gNe g7 (z := 1) (by decide)
  have g12n := gNe g12 (z := 2) (by decide)
  have g20n := gNe g20 (z := 3) (by decide)
  have g28n := gNe g28 (z := 4) (by decide)
  have g33n := gNe g33 (z := 5) (by decide)
  refine r_tabOut (pc := 9) (tgt := 254) dX5_takeTurn_9 (by omega) (by decide) ?_
  refine r_aload_n (pc := 254) dX5_takeTurn_254 rfl rfl ?_
  refine fX5_23 (pc := 255) hF dX5_takeTurn_255 (fun b42 => ?_)
  refine r_bipush (pc := 258) (v := 7) dX5_takeTurn_258 (by decide) ?_
  refine r_iconst (pc := 260) (v := 1) dX5_takeTurn_260 (by decide) ?_
  refine r_iload_n (pc := 261) dX5_takeTurn_261 rfl rfl ?_
  refine r_bipush (pc := 262) (v := 9) dX5_takeTurn_262 (by decide) ?_
  refine r_iremc (pc := 264) dX5_takeTurn_264 (by decide) ?_
  refine r_iadd (pc := 265) dX5_takeTurn_265 ?_
  refine r_iconst (pc := 266) (v := 0) dX5_takeTurn_266 (by decide) ?_
  refine r_iconst (pc := 267) (v := 0) dX5_takeTurn_267 (by decide) ?_
  obtain ⟨m43, x44, q45, h⟩ := gCl_some h
  refine r_callVN (kd := 0) (pc := 268) [.int _, .int _, .int _, .int _] (tX0_perform _ _ _ hF _ _ _ _ _ _ _ q45 b42) ⟨rfl, rfl⟩ cd_X0_perform wX5_229 nm_X0_perform rfl (by rw [hRm]; decide) rfl (Nat.le_of_ble_eq_true rfl) rfl (by decide) b42 dX5_takeTurn_268 ?_
  refine r_pop (pc := 271) dX5_takeTurn_271 rfl ?_
  exact r_vretH dX5_takeTurn_272 h he
set_option maxHeartbeats 4000000 in
set_option maxRecDepth 100000 in
theorem tX5_isSlot (l : Launch) (G : gX) (u : gU) (hF : gFull u) (p1 : Int32) (m : gM) (o : gM × Int32) (h : fX5_isSlot p1 m = some o)  : gMet l G u yX5_isSlot (.code yX5_isSlot cX5_isSlot 1 (some .boolean)) rmX5_isSlot [.int p1] m o.1 (some (.int o.2)) := by
  refine gMet_of (own := RX5) (k := 0) (by decide) rfl ⟨rfl, rfl⟩ (Nat.le_of_ble_eq_true rfl) [some (.int p1)] rfl (fun Y hG hu hnL hLn hRm he => ?_)
  subst hG hu hLn
  unfold fX5_isSlot at h
  refine r_iload_n (pc := 0) dX5_isSlot_0 rfl rfl ?_
  refine r_iconst (pc := 1) (v := 0) dX5_isSlot_1 (by decide) ?_
  refine r_iconst (pc := 2) (v := 1) dX5_isSlot_2 (by decide) ?_
  obtain ⟨m1, x2, q3, h⟩ := gCl_some h
  refine r_callS (pc := 3) [.int _, .int _, .int _] (tX5_isWithin _ _ _ hF _ _ _ _ _ q3) ⟨rfl, rfl⟩ cd_X5_isWithin wX5_41 nm_X5_isWithin rfl (by rw [hRm]; decide) rfl (Nat.le_of_ble_eq_true rfl) dX5_isSlot_3 ?_
  exact r_zretH dX5_isSlot_6 rfl h he
