/-! written by program: each method's bytecode does its function -/
set_option maxHeartbeats 4000000 in
set_option maxRecDepth 100000 in
theorem tX5_append (l : Launch) (G : gX) (u : gU) (hF : gFull u) (a0 : Nat) (p1 : Int32) (m : gM) (o : gM × Nat × Int32) (h : fX5_append a0 p1 m = some o) (hz : o.2.1 = 0) (h0 : gIn u a0 4 0) : gMet l G u yX5_append (.code yX5_append cX5_append 2 (some .int)) rmX5_append [.ref a0, .int p1] m o.1 (some (.int o.2.2)) := by
  refine gMet_of (own := RX5) (k := 0) (by decide) rfl ⟨rfl, rfl⟩ (Nat.le_of_ble_eq_true rfl) [some (.ref a0), some (.int p1)] rfl (fun Y hG hu hnL hLn hRm he => ?_)
  subst hG hu hLn
  unfold fX5_append at h
  refine r_iload_n (pc := 0) dX5_append_0 rfl rfl ?_
  refine r_iconst (pc := 1) (v := 0) dX5_append_1 (by decide) ?_
  refine r_sipush (pc := 2) (v := 255) dX5_append_2 (by decide) ?_
  obtain ⟨m1, x2, q3, h⟩ := gCl_some h
  refine r_callS (pc := 5) [.int _, .int _, .int _] (tX5_isWithin _ _ _ hF _ _ _ _ _ q3) ⟨rfl, rfl⟩ cd_X5_isWithin wX5_41 nm_X5_isWithin rfl (by rw [hRm]; decide) rfl (Nat.le_of_ble_eq_true rfl) dX5_append_5 ?_
  obtain ⟨g4, h⟩ := gDem_ret (by decide) h hz
  refine r_callS (pc := 8) [.int _] (tX5_demandArgument _ _ _ _ _ g4) ⟨rfl, rfl⟩ cd_X5_demandArgument wX5_45 nm_X5_demandArgument rfl (by rw [hRm]; decide) rfl (Nat.le_of_ble_eq_true rfl) dX5_append_8 ?_
  refine r_aload_n (pc := 11) dX5_append_11 rfl rfl ?_
  refine fX5_10 (pc := 12) hF dX5_append_12 h0 (fun b5 => ?_)
  refine fX5_49 (pc := 15) dX5_append_15 b5 h (fun x6 h => ?_)
  refine r_bipush (pc := 18) (v := 120) dX5_append_18 (by decide) ?_
  refine r_jn1 h (fun x7 => AW Y cX5_append RX5 28 [some (.ref a0), some (.int p1)] [.int x7] m1) (fun x7 h => ?_) (fun hJ8 => ?_)
  · obtain ⟨g10, h⟩ := gDem_ret (by decide) h hz
    refine r_callS (pc := 28) [.int _] (tX5_demandState _ _ _ _ _ g10) ⟨rfl, rfl⟩ cd_X5_demandState wX5_53 nm_X5_demandState rfl (by rw [hRm]; decide) rfl (Nat.le_of_ble_eq_true rfl) dX5_append_28 ?_
    refine r_aload_n (pc := 31) dX5_append_31 rfl rfl ?_
    refine fX5_10 (pc := 32) hF dX5_append_32 h0 (fun b11 => ?_)
    refine r_iload_n (pc := 35) dX5_append_35 rfl rfl ?_
    refine r_i2c (pc := 36) dX5_append_36 ?_
    obtain ⟨m12, x13, q14, h⟩ := gCl_some h
    refine r_callVN (kd := 3) (pc := 37) [.int _] (tX4_add _ _ _ hF _ _ _ _ q14 b11) ⟨rfl, rfl⟩ cd_X4_add wX5_56 nm_X4_add rfl (by rw [hRm]; decide) rfl (Nat.le_of_ble_eq_true rfl) rfl (by decide) b11 dX5_append_37 ?_
    exact r_iretX dX5_append_40 h he
  · refine r_icmpC_ge (pc := 20) (tgt := 27) dX5_append_20 (by decide) (fun g9 => ?_) (fun g9 => ?_)
    · refine r_iconst (pc := 27) (v := 0) dX5_append_27 (by decide) ?_
      exact r_mask [true, true] rfl (hJ8 _ (by rw [if_pos g9]))
    · refine r_iconst (pc := 23) (v := 1) dX5_append_23 (by decide) ?_
      refine r_goto (pc := 24) (tgt := 28) dX5_append_24 (by decide) ?_
      exact r_mask [true, true] rfl (hJ8 _ (by rw [if_neg g9]))
set_option maxHeartbeats 4000000 in
set_option maxRecDepth 100000 in
theorem tX5_appendT (l : Launch) (hlt : l.stackTraces = false) (G : gX) (u : gU) (hF : gFull u) (a0 : Nat) (p1 : Int32) (m : gM) (o : gM × Nat × Int32) (h : fX5_append a0 p1 m = some o) (hz : o.2.1 ≠ 0) (h0 : gIn u a0 4 0) : gMetT l G u yX5_append (.code yX5_append cX5_append 2 (some .int)) rmX5_appendT [.ref a0, .int p1] m o.1 (gEn o.2.1) := by
  refine gMetT_of hlt (own := RX5) (k := 0) (by decide) rfl ⟨rfl, rfl⟩ (Nat.le_of_ble_eq_true rfl) [some (.ref a0), some (.int p1)] rfl (fun Y hG hu hnL hLn hRm he => ?_)
  subst hG hu hLn
  unfold fX5_append at h
  refine r_iload_n (pc := 0) dX5_append_0 rfl rfl ?_
  refine r_iconst (pc := 1) (v := 0) dX5_append_1 (by decide) ?_
  refine r_sipush (pc := 2) (v := 255) dX5_append_2 (by decide) ?_
  obtain ⟨m15, x16, q17, h⟩ := gCl_some h
  refine r_callS (pc := 5) [.int _, .int _, .int _] (tX5_isWithin _ _ _ hF _ _ _ _ _ q17) ⟨rfl, rfl⟩ cd_X5_isWithin wX5_41 nm_X5_isWithin rfl (by rw [hRm]; decide) rfl (Nat.le_of_ble_eq_true rfl) dX5_append_5 ?_
  rcases gDem_thr h with ⟨g18, eg18⟩ | ⟨g18, h⟩
  · subst eg18
    exact r_callST (pc := 8) [.int _] (tX5_demandArgumentT _ hlt _ _ _ _ g18) ⟨rfl, rfl⟩ cd_X5_demandArgument wX5_45 nm_X5_demandArgument rfl (by rw [hRm]; decide) rfl (Nat.le_of_ble_eq_true rfl) dX5_append_8 he
  refine r_callS (pc := 8) [.int _] (tX5_demandArgument _ _ _ _ _ g18) ⟨rfl, rfl⟩ cd_X5_demandArgument wX5_45 nm_X5_demandArgument rfl (by rw [hRm]; decide) rfl (Nat.le_of_ble_eq_true rfl) dX5_append_8 ?_
  refine r_aload_n (pc := 11) dX5_append_11 rfl rfl ?_
  refine fX5_10 (pc := 12) hF dX5_append_12 h0 (fun b19 => ?_)
  refine fX5_49 (pc := 15) dX5_append_15 b19 h (fun x20 h => ?_)
  refine r_bipush (pc := 18) (v := 120) dX5_append_18 (by decide) ?_
  refine r_jn1 h (fun x21 => AW Y cX5_append RX5 28 [some (.ref a0), some (.int p1)] [.int x21] m15) (fun x21 h => ?_) (fun hJ22 => ?_)
  · rcases gDem_thr h with ⟨g24, eg24⟩ | ⟨g24, h⟩
    · subst eg24
      exact r_callST (pc := 28) [.int _] (tX5_demandStateT _ hlt _ _ _ _ g24) ⟨rfl, rfl⟩ cd_X5_demandState wX5_53 nm_X5_demandState rfl (by rw [hRm]; decide) rfl (Nat.le_of_ble_eq_true rfl) dX5_append_28 he
    refine r_callS (pc := 28) [.int _] (tX5_demandState _ _ _ _ _ g24) ⟨rfl, rfl⟩ cd_X5_demandState wX5_53 nm_X5_demandState rfl (by rw [hRm]; decide) rfl (Nat.le_of_ble_eq_true rfl) dX5_append_28 ?_
    refine r_aload_n (pc := 31) dX5_append_31 rfl rfl ?_
    refine fX5_10 (pc := 32) hF dX5_append_32 h0 (fun b25 => ?_)
    refine r_iload_n (pc := 35) dX5_append_35 rfl rfl ?_
    refine r_i2c (pc := 36) dX5_append_36 ?_
    obtain ⟨m26, x27, q28, h⟩ := gCl_some h
    refine r_callVN (kd := 3) (pc := 37) [.int _] (tX4_add _ _ _ hF _ _ _ _ q28 b25) ⟨rfl, rfl⟩ cd_X4_add wX5_56 nm_X4_add rfl (by rw [hRm]; decide) rfl (Nat.le_of_ble_eq_true rfl) rfl (by decide) b25 dX5_append_37 ?_
    cases h
    exact absurd rfl hz
  · refine r_icmpC_ge (pc := 20) (tgt := 27) dX5_append_20 (by decide) (fun g23 => ?_) (fun g23 => ?_)
    · refine r_iconst (pc := 27) (v := 0) dX5_append_27 (by decide) ?_
      exact r_mask [true, true] rfl (hJ22 _ (by rw [if_pos g23]))
    · refine r_iconst (pc := 23) (v := 1) dX5_append_23 (by decide) ?_
      refine r_goto (pc := 24) (tgt := 28) dX5_append_24 (by decide) ?_
      exact r_mask [true, true] rfl (hJ22 _ (by rw [if_neg g23]))
set_option maxHeartbeats 4000000 in
set_option maxRecDepth 100000 in
theorem tX5_load (l : Launch) (G : gX) (u : gU) (hF : gFull u) (a0 : Nat) (m : gM) (o : gM × Nat × Int32) (h : fX5_load a0 m = some o) (hz : o.2.1 = 0) (h0 : gIn u a0 4 0) : gMet l G u yX5_load (.code yX5_load cX5_load 3 (some .int)) rmX5_load [.ref a0] m o.1 (some (.int o.2.2)) := by
  refine gMet_of (own := RX5) (k := 2) (by decide) rfl ⟨rfl, rfl⟩ (Nat.le_of_ble_eq_true rfl) [some (.ref a0), none, none] rfl (fun Y hG hu hnL hLn hRm he => ?_)
  subst hG hu hLn
  unfold fX5_load at h
  refine r_aload_n (pc := 0) dX5_load_0 rfl rfl ?_
  refine fX5_10 (pc := 1) hF dX5_load_1 h0 (fun b1 => ?_)
  obtain ⟨m2, x3, q4, h⟩ := gCl_some h
  refine r_callVN (kd := 3) (pc := 4) [] (tX4_firstError _ _ _ hF _ _ _ q4 b1) ⟨rfl, rfl⟩ cd_X4_firstError wX5_64 nm_X4_firstError rfl (by rw [hRm]; decide) rfl (Nat.le_of_ble_eq_true rfl) rfl (by decide) b1 dX5_load_4 ?_
  refine r_iconst (pc := 7) (v := (-1)) dX5_load_7 (by decide) ?_
  refine r_jn1 h (fun x5 => AW Y cX5_load RX5 16 [some (.ref a0), none, none] [.int x5] m2) (fun x5 h => ?_) (fun hJ6 => ?_)
  · obtain ⟨g8, h⟩ := gDem_ret (by decide) h hz
    refine r_callS (pc := 16) [.int _] (tX5_demandState _ _ _ _ _ g8) ⟨rfl, rfl⟩ cd_X5_demandState wX5_53 nm_X5_demandState rfl (by rw [hRm]; decide) rfl (Nat.le_of_ble_eq_true rfl) dX5_load_16 ?_
    refine r_aload_n (pc := 19) dX5_load_19 rfl rfl ?_
    refine fX5_19 (pc := 20) hF dX5_load_20 h0 (fun b9 => ?_)
    obtain ⟨m10, q12, h⟩ := gCv_some h
    refine r_callVN (kd := 0) (pc := 23) [] (tX0_makeNew _ _ _ hF _ _ _ q12 b9) ⟨rfl, rfl⟩ cd_X0_makeNew wX5_67 nm_X0_makeNew rfl (by rw [hRm]; decide) rfl (Nat.le_of_ble_eq_true rfl) rfl (by decide) b9 dX5_load_23 ?_
    refine r_aload_n (pc := 26) dX5_load_26 rfl rfl ?_
    refine fX5_29 (pc := 27) hF dX5_load_27 h0 (fun b13 => ?_)
    obtain ⟨m14, q16, h⟩ := gCv_some h
    refine r_callVN (kd := 2) (pc := 30) [] (tX2_forgetAll _ _ _ hF _ _ _ q16 b13) ⟨rfl, rfl⟩ cd_X2_forgetAll wX5_70 nm_X2_forgetAll rfl (by rw [hRm]; decide) rfl (Nat.le_of_ble_eq_true rfl) rfl (by decide) b13 dX5_load_30 ?_
    refine r_iconst (pc := 33) (v := 0) dX5_load_33 (by decide) ?_
    refine r_istore_n (pc := 34) dX5_load_34 rfl (by rw [hnL]; decide) rfl ?_
    have L60 : ∀ (n58 : Nat) (v61 : Int32) (m62 : gM), fX5_load_L35 a0 n58 v61 m62 = some o → AW Y cX5_load RX5 35 [some (.ref a0), some (.int v61), none] [] m62 := by
      intro n58
      induction n58 with
      | zero =>
        intro v61 m62 h
        exact absurd h (by simp [fX5_load_L35])
      | succ n58 ih59 =>
        intro v61 m62 h
        rw [fX5_load_L35] at h
        refine r_iload_n (pc := 35) dX5_load_35 rfl rfl ?_
        refine r_iconst (pc := 36) (v := 2) dX5_load_36 (by decide) ?_
        refine r_icmp_ge (pc := 37) (tgt := 53) dX5_load_37 (by decide) h (fun h => ?_) (fun h => ?_)
        · refine r_iconst (pc := 53) (v := 0) dX5_load_53 (by decide) ?_
          refine r_istore_n (pc := 54) dX5_load_54 rfl (by rw [hnL]; decide) rfl ?_
          refine r_iconst (pc := 55) (v := 1) dX5_load_55 (by decide) ?_
          refine r_istore_n (pc := 56) dX5_load_56 rfl (by rw [hnL]; decide) rfl ?_
          have L65 : ∀ (n63 : Nat) (v66 : Int32) (v67 : Int32) (m68 : gM), fX5_load_L57 a0 (fX5_load_L35 a0 n58) n63 v66 v67 m68 = some o → AW Y cX5_load RX5 57 [some (.ref a0), some (.int v66), some (.int v67)] [] m68 := by
            intro n63
            induction n63 with
            | zero =>
              intro v66 v67 m68 h
              exact absurd h (by simp [fX5_load_L57])
            | succ n63 ih64 =>
              intro v66 v67 m68 h
              rw [fX5_load_L57] at h
              refine r_iload_n (pc := 57) dX5_load_57 rfl rfl ?_
              refine r_aload_n (pc := 58) dX5_load_58 rfl rfl ?_
              refine fX5_10 (pc := 59) hF dX5_load_59 h0 (fun b69 => ?_)
              refine fX5_49 (pc := 62) dX5_load_62 b69 h (fun x70 h => ?_)
              refine r_icmp_ge (pc := 65) (tgt := 103) dX5_load_65 (by decide) h (fun h => ?_) (fun h => ?_)
              · refine r_iload_n (pc := 103) dX5_load_103 rfl rfl ?_
                exact r_iretX dX5_load_104 h he
              · refine r_aload_n (pc := 68) dX5_load_68 rfl rfl ?_
                refine fX5_10 (pc := 69) hF dX5_load_69 h0 (fun b71 => ?_)
                refine r_iload_n (pc := 72) dX5_load_72 rfl rfl ?_
                refine r_aload_n (pc := 73) dX5_load_73 rfl rfl ?_
                refine fX5_19 (pc := 74) hF dX5_load_74 h0 (fun b72 => ?_)
                obtain ⟨m73, x74, q75, h⟩ := gCl_some h
                refine r_callVN (kd := 3) (pc := 77) [.int _, .ref _] (tX4_doCommand _ _ _ hF _ _ _ _ _ q75 b71 b72) ⟨rfl, rfl⟩ cd_X4_doCommand wX5_73 nm_X4_doCommand rfl (by rw [hRm]; decide) rfl (Nat.le_of_ble_eq_true rfl) rfl (by decide) b71 dX5_load_77 ?_
                refine r_iconst (pc := 80) (v := (-1)) dX5_load_80 (by decide) ?_
                refine r_jnK h (fun (k77 : Int32 → Option (gM × Nat × Int32)) => ∀ (x76 : Int32), k77 x76 = some o → AW Y cX5_load RX5 87 [some (.ref a0), some (.int x76), some (.int v67)] [] m73) (fun x76 h => ?_) (fun k77 hJ78 h => ?_)
                · refine r_iload_n (pc := 87) dX5_load_87 rfl rfl ?_
                  refine r_iconst (pc := 88) (v := 1) dX5_load_88 (by decide) ?_
                  refine r_aload_n (pc := 89) dX5_load_89 rfl rfl ?_
                  refine fX5_10 (pc := 90) hF dX5_load_90 h0 (fun b79 => ?_)
                  refine r_iload_n (pc := 93) dX5_load_93 rfl rfl ?_
                  obtain ⟨m80, x81, q82, h⟩ := gCl_some h
                  refine r_callVN (kd := 3) (pc := 94) [.int _] (tX4_formLength _ _ _ hF _ _ _ _ q82 b79) ⟨rfl, rfl⟩ cd_X4_formLength wX5_77 nm_X4_formLength rfl (by rw [hRm]; decide) rfl (Nat.le_of_ble_eq_true rfl) rfl (by decide) b79 dX5_load_94 ?_
                  refine r_iadd (pc := 97) dX5_load_97 ?_
                  refine r_iadd (pc := 98) dX5_load_98 ?_
                  refine r_istore_nL (pc := 99) dX5_load_99 rfl (by rw [hnL]; decide) h (fun x83 h => ?_)
                  refine r_goto (pc := 100) (tgt := 57) dX5_load_100 (by decide) ?_
                  exact r_mask [true, true, true] rfl (ih64 _ _ _ h)
                · refine r_icmp_ne (pc := 81) (tgt := 87) dX5_load_81 (by decide) h (fun h => ?_) (fun h => ?_)
                  · exact r_mask [true, true, true] rfl (hJ78 _ h)
                  · refine r_iinc (pc := 84) (d := 1) dX5_load_84 rfl (by decide) (by rw [hnL]; decide) h (fun x84 h => ?_)
                    exact r_mask [true, true, true] rfl (hJ78 _ h)
          exact r_mask [true, true, true] rfl (L65 _ _ _ _ h)
        · refine r_aload_n (pc := 40) dX5_load_40 rfl rfl ?_
          refine fX5_37 (pc := 41) hF dX5_load_41 h0 (fun b85 => ?_)
          refine r_iload_n (pc := 44) dX5_load_44 rfl rfl ?_
          refine r_iconst (pc := 45) (v := 0) dX5_load_45 (by decide) ?_
          refine r_zast (pc := 46) dX5_load_46 b85 h (fun m86 h => ?_)
          refine r_iinc (pc := 47) (d := 1) dX5_load_47 rfl (by decide) (by rw [hnL]; decide) h (fun x87 h => ?_)
          refine r_goto (pc := 50) (tgt := 35) dX5_load_50 (by decide) ?_
          exact r_mask [true, true, false] rfl (ih59 _ _ h)
    exact r_mask [true, true, false] rfl (L60 _ _ _ h)
  · refine r_icmpC_ne (pc := 8) (tgt := 15) dX5_load_8 (by decide) (fun g7 => ?_) (fun g7 => ?_)
    · refine r_iconst (pc := 15) (v := 0) dX5_load_15 (by decide) ?_
      exact r_mask [true, false, false] rfl (hJ6 _ (by rw [if_neg g7]))
    · refine r_iconst (pc := 11) (v := 1) dX5_load_11 (by decide) ?_
      refine r_goto (pc := 12) (tgt := 16) dX5_load_12 (by decide) ?_
      exact r_mask [true, false, false] rfl (hJ6 _ (by rw [if_pos g7]))
set_option maxHeartbeats 4000000 in
set_option maxRecDepth 100000 in
theorem tX5_loadT (l : Launch) (hlt : l.stackTraces = false) (G : gX) (u : gU) (hF : gFull u) (a0 : Nat) (m : gM) (o : gM × Nat × Int32) (h : fX5_load a0 m = some o) (hz : o.2.1 ≠ 0) (h0 : gIn u a0 4 0) : gMetT l G u yX5_load (.code yX5_load cX5_load 3 (some .int)) rmX5_loadT [.ref a0] m o.1 (gEn o.2.1) := by
  refine gMetT_of hlt (own := RX5) (k := 2) (by decide) rfl ⟨rfl, rfl⟩ (Nat.le_of_ble_eq_true rfl) [some (.ref a0), none, none] rfl (fun Y hG hu hnL hLn hRm he => ?_)
  subst hG hu hLn
  unfold fX5_load at h
  refine r_aload_n (pc := 0) dX5_load_0 rfl rfl ?_
  refine fX5_10 (pc := 1) hF dX5_load_1 h0 (fun b88 => ?_)
  obtain ⟨m89, x90, q91, h⟩ := gCl_some h
  refine r_callVN (kd := 3) (pc := 4) [] (tX4_firstError _ _ _ hF _ _ _ q91 b88) ⟨rfl, rfl⟩ cd_X4_firstError wX5_64 nm_X4_firstError rfl (by rw [hRm]; decide) rfl (Nat.le_of_ble_eq_true rfl) rfl (by decide) b88 dX5_load_4 ?_
  refine r_iconst (pc := 7) (v := (-1)) dX5_load_7 (by decide) ?_
  refine r_jn1 h (fun x92 => AW Y cX5_load RX5 16 [some (.ref a0), none, none] [.int x92] m89) (fun x92 h => ?_) (fun hJ93 => ?_)
  · rcases gDem_thr h with ⟨g95, eg95⟩ | ⟨g95, h⟩
    · subst eg95
      exact r_callST (pc := 16) [.int _] (tX5_demandStateT _ hlt _ _ _ _ g95) ⟨rfl, rfl⟩ cd_X5_demandState wX5_53 nm_X5_demandState rfl (by rw [hRm]; decide) rfl (Nat.le_of_ble_eq_true rfl) dX5_load_16 he
    refine r_callS (pc := 16) [.int _] (tX5_demandState _ _ _ _ _ g95) ⟨rfl, rfl⟩ cd_X5_demandState wX5_53 nm_X5_demandState rfl (by rw [hRm]; decide) rfl (Nat.le_of_ble_eq_true rfl) dX5_load_16 ?_
    refine r_aload_n (pc := 19) dX5_load_19 rfl rfl ?_
    refine fX5_19 (pc := 20) hF dX5_load_20 h0 (fun b96 => ?_)
    obtain ⟨m97, q99, h⟩ := gCv_some h
    refine r_callVN (kd := 0) (pc := 23) [] (tX0_makeNew _ _ _ hF _ _ _ q99 b96) ⟨rfl, rfl⟩ cd_X0_makeNew wX5_67 nm_X0_makeNew rfl (by rw [hRm]; decide) rfl (Nat.le_of_ble_eq_true rfl) rfl (by decide) b96 dX5_load_23 ?_
    refine r_aload_n (pc := 26) dX5_load_26 rfl rfl ?_
    refine fX5_29 (pc := 27) hF dX5_load_27 h0 (fun b100 => ?_)
    obtain ⟨m101, q103, h⟩ := gCv_some h
    refine r_callVN (kd := 2) (pc := 30) [] (tX2_forgetAll _ _ _ hF _ _ _ q103 b100) ⟨rfl, rfl⟩ cd_X2_forgetAll wX5_70 nm_X2_forgetAll rfl (by rw [hRm]; decide) rfl (Nat.le_of_ble_eq_true rfl) rfl (by decide) b100 dX5_load_30 ?_
    refine r_iconst (pc := 33) (v := 0) dX5_load_33 (by decide) ?_
    refine r_istore_n (pc := 34) dX5_load_34 rfl (by rw [hnL]; decide) rfl ?_
    have L147 : ∀ (n145 : Nat) (v148 : Int32) (m149 : gM), fX5_load_L35 a0 n145 v148 m149 = some o → AW Y cX5_load RX5 35 [some (.ref a0), some (.int v148), none] [] m149 := by
      intro n145
      induction n145 with
      | zero =>
        intro v148 m149 h
        exact absurd h (by simp [fX5_load_L35])
      | succ n145 ih146 =>
        intro v148 m149 h
        rw [fX5_load_L35] at h
        refine r_iload_n (pc := 35) dX5_load_35 rfl rfl ?_
        refine r_iconst (pc := 36) (v := 2) dX5_load_36 (by decide) ?_
        refine r_icmp_ge (pc := 37) (tgt := 53) dX5_load_37 (by decide) h (fun h => ?_) (fun h => ?_)
        · refine r_iconst (pc := 53) (v := 0) dX5_load_53 (by decide) ?_
          refine r_istore_n (pc := 54) dX5_load_54 rfl (by rw [hnL]; decide) rfl ?_
          refine r_iconst (pc := 55) (v := 1) dX5_load_55 (by decide) ?_
          refine r_istore_n (pc := 56) dX5_load_56 rfl (by rw [hnL]; decide) rfl ?_
          have L152 : ∀ (n150 : Nat) (v153 : Int32) (v154 : Int32) (m155 : gM), fX5_load_L57 a0 (fX5_load_L35 a0 n145) n150 v153 v154 m155 = some o → AW Y cX5_load RX5 57 [some (.ref a0), some (.int v153), some (.int v154)] [] m155 := by
            intro n150
            induction n150 with
            | zero =>
              intro v153 v154 m155 h
              exact absurd h (by simp [fX5_load_L57])
            | succ n150 ih151 =>
              intro v153 v154 m155 h
              rw [fX5_load_L57] at h
              refine r_iload_n (pc := 57) dX5_load_57 rfl rfl ?_
              refine r_aload_n (pc := 58) dX5_load_58 rfl rfl ?_
              refine fX5_10 (pc := 59) hF dX5_load_59 h0 (fun b156 => ?_)
              refine fX5_49 (pc := 62) dX5_load_62 b156 h (fun x157 h => ?_)
              refine r_icmp_ge (pc := 65) (tgt := 103) dX5_load_65 (by decide) h (fun h => ?_) (fun h => ?_)
              · refine r_iload_n (pc := 103) dX5_load_103 rfl rfl ?_
                cases h
                exact absurd rfl hz
              · refine r_aload_n (pc := 68) dX5_load_68 rfl rfl ?_
                refine fX5_10 (pc := 69) hF dX5_load_69 h0 (fun b158 => ?_)
                refine r_iload_n (pc := 72) dX5_load_72 rfl rfl ?_
                refine r_aload_n (pc := 73) dX5_load_73 rfl rfl ?_
                refine fX5_19 (pc := 74) hF dX5_load_74 h0 (fun b159 => ?_)
                obtain ⟨m160, x161, q162, h⟩ := gCl_some h
                refine r_callVN (kd := 3) (pc := 77) [.int _, .ref _] (tX4_doCommand _ _ _ hF _ _ _ _ _ q162 b158 b159) ⟨rfl, rfl⟩ cd_X4_doCommand wX5_73 nm_X4_doCommand rfl (by rw [hRm]; decide) rfl (Nat.le_of_ble_eq_true rfl) rfl (by decide) b158 dX5_load_77 ?_
                refine r_iconst (pc := 80) (v := (-1)) dX5_load_80 (by decide) ?_
                refine r_jnK h (fun (k164 : Int32 → Option (gM × Nat × Int32)) => ∀ (x163 : Int32), k164 x163 = some o → AW Y cX5_load RX5 87 [some (.ref a0), some (.int x163), some (.int v154)] [] m160) (fun x163 h => ?_) (fun k164 hJ165 h => ?_)
                · refine r_iload_n (pc := 87) dX5_load_87 rfl rfl ?_
                  refine r_iconst (pc := 88) (v := 1) dX5_load_88 (by decide) ?_
                  refine r_aload_n (pc := 89) dX5_load_89 rfl rfl ?_
                  refine fX5_10 (pc := 90) hF dX5_load_90 h0 (fun b166 => ?_)
                  refine r_iload_n (pc := 93) dX5_load_93 rfl rfl ?_
                  obtain ⟨m167, x168, q169, h⟩ := gCl_some h
                  refine r_callVN (kd := 3) (pc := 94) [.int _] (tX4_formLength _ _ _ hF _ _ _ _ q169 b166) ⟨rfl, rfl⟩ cd_X4_formLength wX5_77 nm_X4_formLength rfl (by rw [hRm]; decide) rfl (Nat.le_of_ble_eq_true rfl) rfl (by decide) b166 dX5_load_94 ?_
                  refine r_iadd (pc := 97) dX5_load_97 ?_
                  refine r_iadd (pc := 98) dX5_load_98 ?_
                  refine r_istore_nL (pc := 99) dX5_load_99 rfl (by rw [hnL]; decide) h (fun x170 h => ?_)
                  refine r_goto (pc := 100) (tgt := 57) dX5_load_100 (by decide) ?_
                  exact r_mask [true, true, true] rfl (ih151 _ _ _ h)
                · refine r_icmp_ne (pc := 81) (tgt := 87) dX5_load_81 (by decide) h (fun h => ?_) (fun h => ?_)
                  · exact r_mask [true, true, true] rfl (hJ165 _ h)
                  · refine r_iinc (pc := 84) (d := 1) dX5_load_84 rfl (by decide) (by rw [hnL]; decide) h (fun x171 h => ?_)
                    exact r_mask [true, true, true] rfl (hJ165 _ h)
          exact r_mask [true, true, true] rfl (L152 _ _ _ _ h)
        · refine r_aload_n (pc := 40) dX5_load_40 rfl rfl ?_
          refine fX5_37 (pc := 41) hF dX5_load_41 h0 (fun b172 => ?_)
          refine r_iload_n (pc := 44) dX5_load_44 rfl rfl ?_
          refine r_iconst (pc := 45) (v := 0) dX5_load_45 (by decide) ?_
          refine r_zast (pc := 46) dX5_load_46 b172 h (fun m173 h => ?_)
          refine r_iinc (pc := 47) (d := 1) dX5_load_47 rfl (by decide) (by rw [hnL]; decide) h (fun x174 h => ?_)
          refine r_goto (pc := 50) (tgt := 35) dX5_load_50 (by decide) ?_
          exact r_mask [true, true, false] rfl (ih146 _ _ h)
    exact r_mask [true, true, false] rfl (L147 _ _ _ h)
  · refine r_icmpC_ne (pc := 8) (tgt := 15) dX5_load_8 (by decide) (fun g94 => ?_) (fun g94 => ?_)
    · refine r_iconst (pc := 15) (v := 0) dX5_load_15 (by decide) ?_
      exact r_mask [true, false, false] rfl (hJ93 _ (by rw [if_neg g94]))
    · refine r_iconst (pc := 11) (v := 1) dX5_load_11 (by decide) ?_
      refine r_goto (pc := 12) (tgt := 16) dX5_load_12 (by decide) ?_
      exact r_mask [true, false, false] rfl (hJ93 _ (by rw [if_pos g94]))
set_option maxHeartbeats 4000000 in
set_option maxRecDepth 100000 in
theorem tX5_about (l : Launch) (G : gX) (u : gU) (hF : gFull u) (a0 : Nat) (p1 : Int32) (m : gM) (o : gM × Nat × Int32) (h : fX5_about a0 p1 m = some o) (hz : o.2.1 = 0) (h0 : gIn u a0 4 0) : gMet l G u yX5_about (.code yX5_about cX5_about 2 (some .int)) rmX5_about [.ref a0, .int p1] m o.1 (some (.int o.2.2)) := by
  refine gMet_of (own := RX5) (k := 0) (by decide) rfl ⟨rfl, rfl⟩ (Nat.le_of_ble_eq_true rfl) [some (.ref a0), some (.int p1)] rfl (fun Y hG hu hnL hLn hRm he => ?_)
  subst hG hu hLn
  unfold fX5_about at h
  refine r_iload_n (pc := 0) dX5_about_0 rfl rfl ?_
  refine r_iconst (pc := 1) (v := 0) dX5_about_1 (by decide) ?_
  refine r_bipush (pc := 2) (v := 12) dX5_about_2 (by decide) ?_
  obtain ⟨m1, x2, q3, h⟩ := gCl_some h
  refine r_callS (pc := 4) [.int _, .int _, .int _] (tX5_isWithin _ _ _ hF _ _ _ _ _ q3) ⟨rfl, rfl⟩ cd_X5_isWithin wX5_41 nm_X5_isWithin rfl (by rw [hRm]; decide) rfl (Nat.le_of_ble_eq_true rfl) dX5_about_4 ?_
  obtain ⟨g4, h⟩ := gDem_ret (by decide) h hz
  refine r_callS (pc := 7) [.int _] (tX5_demandArgument _ _ _ _ _ g4) ⟨rfl, rfl⟩ cd_X5_demandArgument wX5_45 nm_X5_demandArgument rfl (by rw [hRm]; decide) rfl (Nat.le_of_ble_eq_true rfl) dX5_about_7 ?_
  refine r_aload_n (pc := 10) dX5_about_10 rfl rfl ?_
  refine fX5_19 (pc := 11) hF dX5_about_11 h0 (fun b5 => ?_)
  refine r_iload_n (pc := 14) dX5_about_14 rfl rfl ?_
  obtain ⟨m6, x7, q8, h⟩ := gCl_some h
  refine r_callVN (kd := 0) (pc := 15) [.int _] (tX0_numberOf _ _ _ hF _ _ _ _ q8 b5) ⟨rfl, rfl⟩ cd_X0_numberOf wX5_81 nm_X0_numberOf rfl (by rw [hRm]; decide) rfl (Nat.le_of_ble_eq_true rfl) rfl (by decide) b5 dX5_about_15 ?_
  exact r_iretX dX5_about_18 h he
set_option maxHeartbeats 4000000 in
set_option maxRecDepth 100000 in
theorem tX5_aboutT (l : Launch) (hlt : l.stackTraces = false) (G : gX) (u : gU) (hF : gFull u) (a0 : Nat) (p1 : Int32) (m : gM) (o : gM × Nat × Int32) (h : fX5_about a0 p1 m = some o) (hz : o.2.1 ≠ 0) (h0 : gIn u a0 4 0) : gMetT l G u yX5_about (.code yX5_about cX5_about 2 (some .int)) rmX5_aboutT [.ref a0, .int p1] m o.1 (gEn o.2.1) := by
  refine gMetT_of hlt (own := RX5) (k := 0) (by decide) rfl ⟨rfl, rfl⟩ (Nat.le_of_ble_eq_true rfl) [some (.ref a0), some (.int p1)] rfl (fun Y hG hu hnL hLn hRm he => ?_)
  subst hG hu hLn
  unfold fX5_about at h
  refine r_iload_n (pc := 0) dX5_about_0 rfl rfl ?_
  refine r_iconst (pc := 1) (v := 0) dX5_about_1 (by decide) ?_
  refine r_bipush (pc := 2) (v := 12) dX5_about_2 (by decide) ?_
  obtain ⟨m9, x10, q11, h⟩ := gCl_some h
  refine r_callS (pc := 4) [.int _, .int _, .int _] (tX5_isWithin _ _ _ hF _ _ _ _ _ q11) ⟨rfl, rfl⟩ cd_X5_isWithin wX5_41 nm_X5_isWithin rfl (by rw [hRm]; decide) rfl (Nat.le_of_ble_eq_true rfl) dX5_about_4 ?_
  rcases gDem_thr h with ⟨g12, eg12⟩ | ⟨g12, h⟩
  · subst eg12
    exact r_callST (pc := 7) [.int _] (tX5_demandArgumentT _ hlt _ _ _ _ g12) ⟨rfl, rfl⟩ cd_X5_demandArgument wX5_45 nm_X5_demandArgument rfl (by rw [hRm]; decide) rfl (Nat.le_of_ble_eq_true rfl) dX5_about_7 he
  refine r_callS (pc := 7) [.int _] (tX5_demandArgument _ _ _ _ _ g12) ⟨rfl, rfl⟩ cd_X5_demandArgument wX5_45 nm_X5_demandArgument rfl (by rw [hRm]; decide) rfl (Nat.le_of_ble_eq_true rfl) dX5_about_7 ?_
  refine r_aload_n (pc := 10) dX5_about_10 rfl rfl ?_
  refine fX5_19 (pc := 11) hF dX5_about_11 h0 (fun b13 => ?_)
  refine r_iload_n (pc := 14) dX5_about_14 rfl rfl ?_
  obtain ⟨m14, x15, q16, h⟩ := gCl_some h
  refine r_callVN (kd := 0) (pc := 15) [.int _] (tX0_numberOf _ _ _ hF _ _ _ _ q16 b13) ⟨rfl, rfl⟩ cd_X0_numberOf wX5_81 nm_X0_numberOf rfl (by rw [hRm]; decide) rfl (Nat.le_of_ble_eq_true rfl) rfl (by decide) b13 dX5_about_15 ?_
  cases h
  exact absurd rfl hz
set_option maxHeartbeats 4000000 in
set_option maxRecDepth 100000 in
theorem tX5_customerOf (l : Launch) (G : gX) (u : gU) (hF : gFull u) (a0 : Nat) (p1 : Int32) (p2 : Int32) (m : gM) (o : gM × Nat × Int32) (h : fX5_customerOf a0 p1 p2 m = some o) (hz : o.2.1 = 0) (h0 : gIn u a0 4 0) : gMet l G u yX5_customerOf (.code yX5_customerOf cX5_customerOf 3 (some .int)) rmX5_customerOf [.ref a0, .int p1, .int p2] m o.1 (some (.int o.2.2)) := by
  refine gMet_of (own := RX5) (k := 0) (by decide) rfl ⟨rfl, rfl⟩ (Nat.le_of_ble_eq_true rfl) [some (.ref a0), some (.int p1), some (.int p2)] rfl (fun Y hG hu hnL hLn hRm he => ?_)
  subst hG hu hLn
  unfold fX5_customerOf at h
  refine r_aload_n (pc := 0) dX5_customerOf_0 rfl rfl ?_
  refine fX5_19 (pc := 1) hF dX5_customerOf_1 h0 (fun b1 => ?_)
  refine r_iload_n (pc := 4) dX5_customerOf_4 rfl rfl ?_
  obtain ⟨m2, x3, q4, h⟩ := gCl_some h
  refine r_callVN (kd := 0) (pc := 5) [.int _] (tX0_hasCustomer _ _ _ hF _ _ _ _ q4 b1) ⟨rfl, rfl⟩ cd_X0_hasCustomer wX5_84 nm_X0_hasCustomer rfl (by rw [hRm]; decide) rfl (Nat.le_of_ble_eq_true rfl) rfl (by decide) b1 dX5_customerOf_5 ?_
  obtain ⟨g5, h⟩ := gDem_ret (by decide) h hz
  refine r_callS (pc := 8) [.int _] (tX5_demandPlace _ _ _ _ _ g5) ⟨rfl, rfl⟩ cd_X5_demandPlace wX5_88 nm_X5_demandPlace rfl (by rw [hRm]; decide) rfl (Nat.le_of_ble_eq_true rfl) dX5_customerOf_8 ?_
  refine r_iload_n (pc := 11) dX5_customerOf_11 rfl rfl ?_
  refine r_iconst (pc := 12) (v := 0) dX5_customerOf_12 (by decide) ?_
  refine r_bipush (pc := 13) (v := 10) dX5_customerOf_13 (by decide) ?_
  obtain ⟨m6, x7, q8, h⟩ := gCl_some h
  refine r_callS (pc := 15) [.int _, .int _, .int _] (tX5_isWithin _ _ _ hF _ _ _ _ _ q8) ⟨rfl, rfl⟩ cd_X5_isWithin wX5_41 nm_X5_isWithin rfl (by rw [hRm]; decide) rfl (Nat.le_of_ble_eq_true rfl) dX5_customerOf_15 ?_
  obtain ⟨g9, h⟩ := gDem_ret (by decide) h hz
  refine r_callS (pc := 18) [.int _] (tX5_demandArgument _ _ _ _ _ g9) ⟨rfl, rfl⟩ cd_X5_demandArgument wX5_45 nm_X5_demandArgument rfl (by rw [hRm]; decide) rfl (Nat.le_of_ble_eq_true rfl) dX5_customerOf_18 ?_
  refine r_iload_n (pc := 21) dX5_customerOf_21 rfl rfl ?_
  refine r_sw h (fun g10 h => ?_) (fun g10 h => ?_)
  · refine r_lookup (pc := 22) (tgt := 48) (off := 26) dX5_customerOf_22 (by decide) (by rw [g10]; first | decide | (show Op.lookupswitch.offset _ _ (Int32.toInt 9) = _; decide)) (by decide) ?_
    refine r_aload_n (pc := 48) dX5_customerOf_48 rfl rfl ?_
    refine fX5_19 (pc := 49) hF dX5_customerOf_49 h0 (fun b11 => ?_)
    refine fX5_91 (pc := 52) hF dX5_customerOf_52 b11 (fun b12 => ?_)
    refine r_iload_n (pc := 55) dX5_customerOf_55 rfl rfl ?_
    refine r_cust (pc := 56) hF dX5_customerOf_56 b12 h (fun c13 b14 h => ?_)
    refine r_aload_n (pc := 57) dX5_customerOf_57 rfl rfl ?_
    refine fX5_19 (pc := 58) hF dX5_customerOf_58 h0 (fun b15 => ?_)
    refine fX5_95 (pc := 61) dX5_customerOf_61 b15 h (fun x16 h => ?_)
    obtain ⟨m17, x18, q19, h⟩ := gCl_some h
    refine r_callVN (kd := 1) (pc := 64) [.int _] (tX1_dueOn _ _ _ hF _ _ _ _ q19 b14) ⟨rfl, rfl⟩ cd_X1_dueOn wX5_98 nm_X1_dueOn rfl (by rw [hRm]; decide) rfl (Nat.le_of_ble_eq_true rfl) rfl (by decide) b14 dX5_customerOf_64 ?_
    exact r_iretX dX5_customerOf_67 h he
  refine r_sw h (fun g20 h => ?_) (fun g20 h => ?_)
  · refine r_lookup (pc := 22) (tgt := 68) (off := 46) dX5_customerOf_22 (by decide) (by rw [g20]; first | decide | (show Op.lookupswitch.offset _ _ (Int32.toInt 10) = _; decide)) (by decide) ?_
    refine r_aload_n (pc := 68) dX5_customerOf_68 rfl rfl ?_
    refine fX5_19 (pc := 69) hF dX5_customerOf_69 h0 (fun b21 => ?_)
    refine fX5_91 (pc := 72) hF dX5_customerOf_72 b21 (fun b22 => ?_)
    refine r_iload_n (pc := 75) dX5_customerOf_75 rfl rfl ?_
    refine r_cust (pc := 76) hF dX5_customerOf_76 b22 h (fun c23 b24 h => ?_)
    refine r_aload_n (pc := 77) dX5_customerOf_77 rfl rfl ?_
    refine fX5_19 (pc := 78) hF dX5_customerOf_78 h0 (fun b25 => ?_)
    refine fX5_95 (pc := 81) dX5_customerOf_81 b25 h (fun x26 h => ?_)
    obtain ⟨m27, x28, q29, h⟩ := gCl_some h
    refine r_callVN (kd := 1) (pc := 84) [.int _] (tX1_nextDueDay _ _ _ hF _ _ _ _ q29 b24) ⟨rfl, rfl⟩ cd_X1_nextDueDay wX5_103 nm_X1_nextDueDay rfl (by rw [hRm]; decide) rfl (Nat.le_of_ble_eq_true rfl) rfl (by decide) b24 dX5_customerOf_84 ?_
    exact r_iretX dX5_customerOf_87 h he
  have g10n := gNe g10 (z := 9) (by decide)
  have g20n := gNe g20 (z := 10) (by decide)
  refine r_lookup (pc := 22) (tgt := 88) (off := 66) dX5_customerOf_22 (by decide) (by simp [Op.lookupswitch.offset, Ne.symm g10n, Ne.symm g20n]) (by decide) ?_
  refine r_aload_n (pc := 88) dX5_customerOf_88 rfl rfl ?_
  refine fX5_19 (pc := 89) hF dX5_customerOf_89 h0 (fun b30 => ?_)
  refine fX5_91 (pc := 92) hF dX5_customerOf_92 b30 (fun b31 => ?_)
  refine r_iload_n (pc := 95) dX5_customerOf_95 rfl rfl ?_
  refine r_cust (pc := 96) hF dX5_customerOf_96 b31 h (fun c32 b33 h => ?_)
  refine r_iload_n (pc := 97) dX5_customerOf_97 rfl rfl ?_
  obtain ⟨m34, x35, q36, h⟩ := gCl_some h
  refine r_callVN (kd := 1) (pc := 98) [.int _] (tX1_numberOf _ _ _ hF _ _ _ _ q36 b33) ⟨rfl, rfl⟩ cd_X1_numberOf wX5_106 nm_X1_numberOf rfl (by rw [hRm]; decide) rfl (Nat.le_of_ble_eq_true rfl) rfl (by decide) b33 dX5_customerOf_98 ?_
  exact r_iretX dX5_customerOf_101 h he
set_option maxHeartbeats 4000000 in
set_option maxRecDepth 100000 in
theorem tX5_customerOfT (l : Launch) (hlt : l.stackTraces = false) (G : gX) (u : gU) (hF : gFull u) (a0 : Nat) (p1 : Int32) (p2 : Int32) (m : gM) (o : gM × Nat × Int32) (h : fX5_customerOf a0 p1 p2 m = some o) (hz : o.2.1 ≠ 0) (h0 : gIn u a0 4 0) : gMetT l G u yX5_customerOf (.code yX5_customerOf cX5_customerOf 3 (some .int)) rmX5_customerOfT [.ref a0, .int p1, .int p2] m o.1 (gEn o.2.1) := by
  refine gMetT_of hlt (own := RX5) (k := 0) (by decide) rfl ⟨rfl, rfl⟩ (Nat.le_of_ble_eq_true rfl) [some (.ref a0), some (.int p1), some (.int p2)] rfl (fun Y hG hu hnL hLn hRm he => ?_)
  subst hG hu hLn
  unfold fX5_customerOf at h
  refine r_aload_n (pc := 0) dX5_customerOf_0 rfl rfl ?_
  refine fX5_19 (pc := 1) hF dX5_customerOf_1 h0 (fun b37 => ?_)
  refine r_iload_n (pc := 4) dX5_customerOf_4 rfl rfl ?_
  obtain ⟨m38, x39, q40, h⟩ := gCl_some h
  refine r_callVN (kd := 0) (pc := 5) [.int _] (tX0_hasCustomer _ _ _ hF _ _ _ _ q40 b37) ⟨rfl, rfl⟩ cd_X0_hasCustomer wX5_84 nm_X0_hasCustomer rfl (by rw [hRm]; decide) rfl (Nat.le_of_ble_eq_true rfl) rfl (by decide) b37 dX5_customerOf_5 ?_
  rcases gDem_thr h with ⟨g41, eg41⟩ | ⟨g41, h⟩
  · subst eg41
    exact r_callST (pc := 8) [.int _] (tX5_demandPlaceT _ hlt _ _ _ _ g41) ⟨rfl, rfl⟩ cd_X5_demandPlace wX5_88 nm_X5_demandPlace rfl (by rw [hRm]; decide) rfl (Nat.le_of_ble_eq_true rfl) dX5_customerOf_8 he
  refine r_callS (pc := 8) [.int _] (tX5_demandPlace _ _ _ _ _ g41) ⟨rfl, rfl⟩ cd_X5_demandPlace wX5_88 nm_X5_demandPlace rfl (by rw [hRm]; decide) rfl (Nat.le_of_ble_eq_true rfl) dX5_customerOf_8 ?_
  refine r_iload_n (pc := 11) dX5_customerOf_11 rfl rfl ?_
  refine r_iconst (pc := 12) (v := 0) dX5_customerOf_12 (by decide) ?_
  refine r_bipush (pc := 13) (v := 10) dX5_customerOf_13 (by decide) ?_
  obtain ⟨m42, x43, q44, h⟩ := gCl_some h
  refine r_callS (pc := 15) [.int _, .int _, .int _] (tX5_isWithin _ _ _ hF _ _ _ _ _ q44) ⟨rfl, rfl⟩ cd_X5_isWithin wX5_41 nm_X5_isWithin rfl (by rw [hRm]; decide) rfl (Nat.le_of_ble_eq_true rfl) dX5_customerOf_15 ?_
  rcases gDem_thr h with ⟨g45, eg45⟩ | ⟨g45, h⟩
  · subst eg45
    exact r_callST (pc := 18) [.int _] (tX5_demandArgumentT _ hlt _ _ _ _ g45) ⟨rfl, rfl⟩ cd_X5_demandArgument wX5_45 nm_X5_demandArgument rfl (by rw [hRm]; decide) rfl (Nat.le_of_ble_eq_true rfl) dX5_customerOf_18 he
  refine r_callS (pc := 18) [.int _] (tX5_demandArgument _ _ _ _ _ g45) ⟨rfl, rfl⟩ cd_X5_demandArgument wX5_45 nm_X5_demandArgument rfl (by rw [hRm]; decide) rfl (Nat.le_of_ble_eq_true rfl) dX5_customerOf_18 ?_
  refine r_iload_n (pc := 21) dX5_customerOf_21 rfl rfl ?_
  refine r_sw h (fun g46 h => ?_) (fun g46 h => ?_)
  · refine r_lookup (pc := 22) (tgt := 48) (off := 26) dX5_customerOf_22 (by decide) (by rw [g46]; first | decide | (show Op.lookupswitch.offset _ _ (Int32.toInt 9) = _; decide)) (by decide) ?_
    refine r_aload_n (pc := 48) dX5_customerOf_48 rfl rfl ?_
    refine fX5_19 (pc := 49) hF dX5_customerOf_49 h0 (fun b47 => ?_)
    refine fX5_91 (pc := 52) hF dX5_customerOf_52 b47 (fun b48 => ?_)
    refine r_iload_n (pc := 55) dX5_customerOf_55 rfl rfl ?_
    refine r_cust (pc := 56) hF dX5_customerOf_56 b48 h (fun c49 b50 h => ?_)
    refine r_aload_n (pc := 57) dX5_customerOf_57 rfl rfl ?_
    refine fX5_19 (pc := 58) hF dX5_customerOf_58 h0 (fun b51 => ?_)
    refine fX5_95 (pc := 61) dX5_customerOf_61 b51 h (fun x52 h => ?_)
    obtain ⟨m53, x54, q55, h⟩ := gCl_some h
    refine r_callVN (kd := 1) (pc := 64) [.int _] (tX1_dueOn _ _ _ hF _ _ _ _ q55 b50) ⟨rfl, rfl⟩ cd_X1_dueOn wX5_98 nm_X1_dueOn rfl (by rw [hRm]; decide) rfl (Nat.le_of_ble_eq_true rfl) rfl (by decide) b50 dX5_customerOf_64 ?_
    cases h
    exact absurd rfl hz
  refine r_sw h (fun g56 h => ?_) (fun g56 h => ?_)
  · refine r_lookup (pc := 22) (tgt := 68) (off := 46) dX5_customerOf_22 (by decide) (by rw [g56]; first | decide | (show Op.lookupswitch.offset _ _ (Int32.toInt 10) = _; decide)) (by decide) ?_
    refine r_aload_n (pc := 68) dX5_customerOf_68 rfl rfl ?_
    refine fX5_19 (pc := 69) hF dX5_customerOf_69 h0 (fun b57 => ?_)
    refine fX5_91 (pc := 72) hF dX5_customerOf_72 b57 (fun b58 => ?_)
    refine r_iload_n (pc := 75) dX5_customerOf_75 rfl rfl ?_
    refine r_cust (pc := 76) hF dX5_customerOf_76 b58 h (fun c59 b60 h => ?_)
    refine r_aload_n (pc := 77) dX5_customerOf_77 rfl rfl ?_
    refine fX5_19 (pc := 78) hF dX5_customerOf_78 h0 (fun b61 => ?_)
    refine fX5_95 (pc := 81) dX5_customerOf_81 b61 h (fun x62 h => ?_)
    obtain ⟨m63, x64, q65, h⟩ := gCl_some h
    refine r_callVN (kd := 1) (pc := 84) [.int _] (tX1_nextDueDay _ _ _ hF _ _ _ _ q65 b60) ⟨rfl, rfl⟩ cd_X1_nextDueDay wX5_103 nm_X1_nextDueDay rfl (by rw [hRm]; decide) rfl (Nat.le_of_ble_eq_true rfl) rfl (by decide) b60 dX5_customerOf_84 ?_
    cases h
    exact absurd rfl hz
  have g46n := gNe g46 (z := 9) (by decide)
  have g56n := gNe g56 (z := 10) (by decide)
  refine r_lookup (pc := 22) (tgt := 88) (off := 66) dX5_customerOf_22 (by decide) (by simp [Op.lookupswitch.offset, Ne.symm g46n, Ne.symm g56n]) (by decide) ?_
  refine r_aload_n (pc := 88) dX5_customerOf_88 rfl rfl ?_
  refine fX5_19 (pc := 89) hF dX5_customerOf_89 h0 (fun b66 => ?_)
  refine fX5_91 (pc := 92) hF dX5_customerOf_92 b66 (fun b67 => ?_)
  refine r_iload_n (pc := 95) dX5_customerOf_95 rfl rfl ?_
  refine r_cust (pc := 96) hF dX5_customerOf_96 b67 h (fun c68 b69 h => ?_)
  refine r_iload_n (pc := 97) dX5_customerOf_97 rfl rfl ?_
  obtain ⟨m70, x71, q72, h⟩ := gCl_some h
  refine r_callVN (kd := 1) (pc := 98) [.int _] (tX1_numberOf _ _ _ hF _ _ _ _ q72 b69) ⟨rfl, rfl⟩ cd_X1_numberOf wX5_106 nm_X1_numberOf rfl (by rw [hRm]; decide) rfl (Nat.le_of_ble_eq_true rfl) rfl (by decide) b69 dX5_customerOf_98 ?_
  cases h
  exact absurd rfl hz
set_option maxHeartbeats 4000000 in
set_option maxRecDepth 100000 in
theorem tX5_ordered (l : Launch) (G : gX) (u : gU) (hF : gFull u) (a0 : Nat) (p1 : Int32) (p2 : Int32) (m : gM) (o : gM × Nat × Int32) (h : fX5_ordered a0 p1 p2 m = some o) (hz : o.2.1 = 0) (h0 : gIn u a0 4 0) : gMet l G u yX5_ordered (.code yX5_ordered cX5_ordered 3 (some .int)) rmX5_ordered [.ref a0, .int p1, .int p2] m o.1 (some (.int o.2.2)) := by
  refine gMet_of (own := RX5) (k := 0) (by decide) rfl ⟨rfl, rfl⟩ (Nat.le_of_ble_eq_true rfl) [some (.ref a0), some (.int p1), some (.int p2)] rfl (fun Y hG hu hnL hLn hRm he => ?_)
  subst hG hu hLn
  unfold fX5_ordered at h
  refine r_aload_n (pc := 0) dX5_ordered_0 rfl rfl ?_
  refine fX5_19 (pc := 1) hF dX5_ordered_1 h0 (fun b1 => ?_)
  refine r_iload_n (pc := 4) dX5_ordered_4 rfl rfl ?_
  obtain ⟨m2, x3, q4, h⟩ := gCl_some h
  refine r_callVN (kd := 0) (pc := 5) [.int _] (tX0_hasCustomer _ _ _ hF _ _ _ _ q4 b1) ⟨rfl, rfl⟩ cd_X0_hasCustomer wX5_84 nm_X0_hasCustomer rfl (by rw [hRm]; decide) rfl (Nat.le_of_ble_eq_true rfl) rfl (by decide) b1 dX5_ordered_5 ?_
  refine r_jnK h (fun (k7 : Int32 → gM → Option (gM × Nat × Int32)) => ∀ (x5 : Int32) (m6 : gM), k7 x5 m6 = some o → AW Y cX5_ordered RX5 23 [some (.ref a0), some (.int p1), some (.int p2)] [.int x5] m6) (fun x5 m6 h => ?_) (fun k7 hJ8 h => ?_)
  · obtain ⟨g9, h⟩ := gDem_ret (by decide) h hz
    refine r_callS (pc := 23) [.int _] (tX5_demandPlace _ _ _ _ _ g9) ⟨rfl, rfl⟩ cd_X5_demandPlace wX5_88 nm_X5_demandPlace rfl (by rw [hRm]; decide) rfl (Nat.le_of_ble_eq_true rfl) dX5_ordered_23 ?_
    refine r_aload_n (pc := 26) dX5_ordered_26 rfl rfl ?_
    refine fX5_19 (pc := 27) hF dX5_ordered_27 h0 (fun b10 => ?_)
    refine fX5_91 (pc := 30) hF dX5_ordered_30 b10 (fun b11 => ?_)
    refine r_iload_n (pc := 33) dX5_ordered_33 rfl rfl ?_
    refine r_cust (pc := 34) hF dX5_ordered_34 b11 h (fun c12 b13 h => ?_)
    refine fX5_110 (pc := 35) hF dX5_ordered_35 b13 (fun b14 => ?_)
    refine r_iload_n (pc := 38) dX5_ordered_38 rfl rfl ?_
    refine r_iald (pc := 39) dX5_ordered_39 b14 h (fun x15 h => ?_)
    exact r_iretX dX5_ordered_40 h he
  · refine r_if_eq (pc := 8) (tgt := 22) dX5_ordered_8 (by decide) h (fun h => ?_) (fun h => ?_)
    · refine r_iconst (pc := 22) (v := 0) dX5_ordered_22 (by decide) ?_
      exact r_mask [true, true, true] rfl (hJ8 _ _ h)
    · refine r_iload_n (pc := 11) dX5_ordered_11 rfl rfl ?_
      obtain ⟨m16, x17, q18, h⟩ := gCl_some h
      refine r_callS (pc := 12) [.int _] (tX5_isWeekday _ _ _ hF _ _ _ q18) ⟨rfl, rfl⟩ cd_X5_isWeekday wX5_107 nm_X5_isWeekday rfl (by rw [hRm]; decide) rfl (Nat.le_of_ble_eq_true rfl) dX5_ordered_12 ?_
      refine r_if_eq (pc := 15) (tgt := 22) dX5_ordered_15 (by decide) h (fun h => ?_) (fun h => ?_)
      · refine r_iconst (pc := 22) (v := 0) dX5_ordered_22 (by decide) ?_
        exact r_mask [true, true, true] rfl (hJ8 _ _ h)
      · refine r_iconst (pc := 18) (v := 1) dX5_ordered_18 (by decide) ?_
        refine r_goto (pc := 19) (tgt := 23) dX5_ordered_19 (by decide) ?_
        exact r_mask [true, true, true] rfl (hJ8 _ _ h)
set_option maxHeartbeats 4000000 in
set_option maxRecDepth 100000 in
theorem tX5_orderedT (l : Launch) (hlt : l.stackTraces = false) (G : gX) (u : gU) (hF : gFull u) (a0 : Nat) (p1 : Int32) (p2 : Int32) (m : gM) (o : gM × Nat × Int32) (h : fX5_ordered a0 p1 p2 m = some o) (hz : o.2.1 ≠ 0) (h0 : gIn u a0 4 0) : gMetT l G u yX5_ordered (.code yX5_ordered cX5_ordered 3 (some .int)) rmX5_orderedT [.ref a0, .int p1, .int p2] m o.1 (gEn o.2.1) := by
  refine gMetT_of hlt (own := RX5) (k := 0) (by decide) rfl ⟨rfl, rfl⟩ (Nat.le_of_ble_eq_true rfl) [some (.ref a0), some (.int p1), some (.int p2)] rfl (fun Y hG hu hnL hLn hRm he => ?_)
  subst hG hu hLn
  unfold fX5_ordered at h
  refine r_aload_n (pc := 0) dX5_ordered_0 rfl rfl ?_
  refine fX5_19 (pc := 1) hF dX5_ordered_1 h0 (fun b19 => ?_)
  refine r_iload_n (pc := 4) dX5_ordered_4 rfl rfl ?_
  obtain ⟨m20, x21, q22, h⟩ := gCl_some h
  refine r_callVN (kd := 0) (pc := 5) [.int _] (tX0_hasCustomer _ _ _ hF _ _ _ _ q22 b19) ⟨rfl, rfl⟩ cd_X0_hasCustomer wX5_84 nm_X0_hasCustomer rfl (by rw [hRm]; decide) rfl (Nat.le_of_ble_eq_true rfl) rfl (by decide) b19 dX5_ordered_5 ?_
  refine r_jnK h (fun (k25 : Int32 → gM → Option (gM × Nat × Int32)) => ∀ (x23 : Int32) (m24 : gM), k25 x23 m24 = some o → AW Y cX5_ordered RX5 23 [some (.ref a0), some (.int p1), some (.int p2)] [.int x23] m24) (fun x23 m24 h => ?_) (fun k25 hJ26 h => ?_)
  · rcases gDem_thr h with ⟨g27, eg27⟩ | ⟨g27, h⟩
    · subst eg27
      exact r_callST (pc := 23) [.int _] (tX5_demandPlaceT _ hlt _ _ _ _ g27) ⟨rfl, rfl⟩ cd_X5_demandPlace wX5_88 nm_X5_demandPlace rfl (by rw [hRm]; decide) rfl (Nat.le_of_ble_eq_true rfl) dX5_ordered_23 he
    refine r_callS (pc := 23) [.int _] (tX5_demandPlace _ _ _ _ _ g27) ⟨rfl, rfl⟩ cd_X5_demandPlace wX5_88 nm_X5_demandPlace rfl (by rw [hRm]; decide) rfl (Nat.le_of_ble_eq_true rfl) dX5_ordered_23 ?_
    refine r_aload_n (pc := 26) dX5_ordered_26 rfl rfl ?_
    refine fX5_19 (pc := 27) hF dX5_ordered_27 h0 (fun b28 => ?_)
    refine fX5_91 (pc := 30) hF dX5_ordered_30 b28 (fun b29 => ?_)
    refine r_iload_n (pc := 33) dX5_ordered_33 rfl rfl ?_
    refine r_cust (pc := 34) hF dX5_ordered_34 b29 h (fun c30 b31 h => ?_)
    refine fX5_110 (pc := 35) hF dX5_ordered_35 b31 (fun b32 => ?_)
    refine r_iload_n (pc := 38) dX5_ordered_38 rfl rfl ?_
    refine r_iald (pc := 39) dX5_ordered_39 b32 h (fun x33 h => ?_)
    cases h
    exact absurd rfl hz
  · refine r_if_eq (pc := 8) (tgt := 22) dX5_ordered_8 (by decide) h (fun h => ?_) (fun h => ?_)
    · refine r_iconst (pc := 22) (v := 0) dX5_ordered_22 (by decide) ?_
      exact r_mask [true, true, true] rfl (hJ26 _ _ h)
    · refine r_iload_n (pc := 11) dX5_ordered_11 rfl rfl ?_
      obtain ⟨m34, x35, q36, h⟩ := gCl_some h
      refine r_callS (pc := 12) [.int _] (tX5_isWeekday _ _ _ hF _ _ _ q36) ⟨rfl, rfl⟩ cd_X5_isWeekday wX5_107 nm_X5_isWeekday rfl (by rw [hRm]; decide) rfl (Nat.le_of_ble_eq_true rfl) dX5_ordered_12 ?_
      refine r_if_eq (pc := 15) (tgt := 22) dX5_ordered_15 (by decide) h (fun h => ?_) (fun h => ?_)
      · refine r_iconst (pc := 22) (v := 0) dX5_ordered_22 (by decide) ?_
        exact r_mask [true, true, true] rfl (hJ26 _ _ h)
      · refine r_iconst (pc := 18) (v := 1) dX5_ordered_18 (by decide) ?_
        refine r_goto (pc := 19) (tgt := 23) dX5_ordered_19 (by decide) ?_
        exact r_mask [true, true, true] rfl (hJ26 _ _ h)
set_option maxHeartbeats 4000000 in
set_option maxRecDepth 100000 in
theorem tX5_away (l : Launch) (G : gX) (u : gU) (hF : gFull u) (a0 : Nat) (p1 : Int32) (p2 : Int32) (p3 : Int32) (m : gM) (o : gM × Nat × Int32) (h : fX5_away a0 p1 p2 p3 m = some o) (hz : o.2.1 = 0) (h0 : gIn u a0 4 0) : gMet l G u yX5_away (.code yX5_away cX5_away 5 (some .int)) rmX5_away [.ref a0, .int p1, .int p2, .int p3] m o.1 (some (.int o.2.2)) := by
  refine gMet_of (own := RX5) (k := 1) (by decide) rfl ⟨rfl, rfl⟩ (Nat.le_of_ble_eq_true rfl) [some (.ref a0), some (.int p1), some (.int p2), some (.int p3), none] rfl (fun Y hG hu hnL hLn hRm he => ?_)
  subst hG hu hLn
  unfold fX5_away at h
  refine r_aload_n (pc := 0) dX5_away_0 rfl rfl ?_
  refine fX5_19 (pc := 1) hF dX5_away_1 h0 (fun b1 => ?_)
  refine r_iload_n (pc := 4) dX5_away_4 rfl rfl ?_
  obtain ⟨m2, x3, q4, h⟩ := gCl_some h
  refine r_callVN (kd := 0) (pc := 5) [.int _] (tX0_hasCustomer _ _ _ hF _ _ _ _ q4 b1) ⟨rfl, rfl⟩ cd_X0_hasCustomer wX5_84 nm_X0_hasCustomer rfl (by rw [hRm]; decide) rfl (Nat.le_of_ble_eq_true rfl) rfl (by decide) b1 dX5_away_5 ?_
  refine r_jnK h (fun (k7 : Int32 → gM → Option (gM × Nat × Int32)) => ∀ (x5 : Int32) (m6 : gM), k7 x5 m6 = some o → AW Y cX5_away RX5 25 [some (.ref a0), some (.int p1), some (.int p2), some (.int p3), none] [.int x5] m6) (fun x5 m6 h => ?_) (fun k7 hJ8 h => ?_)
  · obtain ⟨g9, h⟩ := gDem_ret (by decide) h hz
    refine r_callS (pc := 25) [.int _] (tX5_demandPlace _ _ _ _ _ g9) ⟨rfl, rfl⟩ cd_X5_demandPlace wX5_88 nm_X5_demandPlace rfl (by rw [hRm]; decide) rfl (Nat.le_of_ble_eq_true rfl) dX5_away_25 ?_
    refine r_iload_n (pc := 28) dX5_away_28 rfl rfl ?_
    refine r_iconst (pc := 29) (v := 0) dX5_away_29 (by decide) ?_
    refine r_iconst (pc := 30) (v := 1) dX5_away_30 (by decide) ?_
    obtain ⟨m10, x11, q12, h⟩ := gCl_some h
    refine r_callS (pc := 31) [.int _, .int _, .int _] (tX5_isWithin _ _ _ hF _ _ _ _ _ q12) ⟨rfl, rfl⟩ cd_X5_isWithin wX5_41 nm_X5_isWithin rfl (by rw [hRm]; decide) rfl (Nat.le_of_ble_eq_true rfl) dX5_away_31 ?_
    obtain ⟨g13, h⟩ := gDem_ret (by decide) h hz
    refine r_callS (pc := 34) [.int _] (tX5_demandArgument _ _ _ _ _ g13) ⟨rfl, rfl⟩ cd_X5_demandArgument wX5_45 nm_X5_demandArgument rfl (by rw [hRm]; decide) rfl (Nat.le_of_ble_eq_true rfl) dX5_away_34 ?_
    refine r_aload_n (pc := 37) dX5_away_37 rfl rfl ?_
    refine fX5_19 (pc := 38) hF dX5_away_38 h0 (fun b14 => ?_)
    refine fX5_91 (pc := 41) hF dX5_away_41 b14 (fun b15 => ?_)
    refine r_iload_n (pc := 44) dX5_away_44 rfl rfl ?_
    refine r_cust (pc := 45) hF dX5_away_45 b15 h (fun c16 b17 h => ?_)
    refine r_astore (pc := 46) dX5_away_46 (by rw [hnL]; decide) rfl ?_
    refine r_iload_n (pc := 48) dX5_away_48 rfl rfl ?_
    refine r_aload (pc := 49) dX5_away_49 rfl ?_
    refine fX5_114 (pc := 51) dX5_away_51 b17 h (fun x18 h => ?_)
    refine r_icmp_lt (pc := 54) (tgt := 59) dX5_away_54 (by decide) h (fun h => ?_) (fun h => ?_)
    · refine r_iload_n (pc := 59) dX5_away_59 rfl rfl ?_
      refine r_if_ne (pc := 60) (tgt := 73) dX5_away_60 (by decide) h (fun h => ?_) (fun h => ?_)
      · refine r_aload (pc := 73) dX5_away_73 rfl ?_
        refine fX5_120 (pc := 75) hF dX5_away_75 b17 (fun b19 => ?_)
        refine r_iload_n (pc := 78) dX5_away_78 rfl rfl ?_
        refine r_iald (pc := 79) dX5_away_79 b19 h (fun x20 h => ?_)
        exact r_iretX dX5_away_80 h he
      · refine r_aload (pc := 63) dX5_away_63 rfl ?_
        refine fX5_117 (pc := 65) hF dX5_away_65 b17 (fun b21 => ?_)
        refine r_iload_n (pc := 68) dX5_away_68 rfl rfl ?_
        refine r_iald (pc := 69) dX5_away_69 b21 h (fun x22 h => ?_)
        refine r_goto (pc := 70) (tgt := 80) dX5_away_70 (by decide) ?_
        exact r_iretX dX5_away_80 h he
    · refine r_iconst (pc := 57) (v := (-1)) dX5_away_57 (by decide) ?_
      exact r_iretX dX5_away_58 h he
  · refine r_if_eq (pc := 8) (tgt := 24) dX5_away_8 (by decide) h (fun h => ?_) (fun h => ?_)
    · refine r_iconst (pc := 24) (v := 0) dX5_away_24 (by decide) ?_
      exact r_mask [true, true, true, true, false] rfl (hJ8 _ _ h)
    · refine r_iload_n (pc := 11) dX5_away_11 rfl rfl ?_
      refine r_iconst (pc := 12) (v := 0) dX5_away_12 (by decide) ?_
      refine r_iconst (pc := 13) (v := 2) dX5_away_13 (by decide) ?_
      obtain ⟨m23, x24, q25, h⟩ := gCl_some h
      refine r_callS (pc := 14) [.int _, .int _, .int _] (tX5_isWithin _ _ _ hF _ _ _ _ _ q25) ⟨rfl, rfl⟩ cd_X5_isWithin wX5_41 nm_X5_isWithin rfl (by rw [hRm]; decide) rfl (Nat.le_of_ble_eq_true rfl) dX5_away_14 ?_
      refine r_if_eq (pc := 17) (tgt := 24) dX5_away_17 (by decide) h (fun h => ?_) (fun h => ?_)
      · refine r_iconst (pc := 24) (v := 0) dX5_away_24 (by decide) ?_
        exact r_mask [true, true, true, true, false] rfl (hJ8 _ _ h)
      · refine r_iconst (pc := 20) (v := 1) dX5_away_20 (by decide) ?_
        refine r_goto (pc := 21) (tgt := 25) dX5_away_21 (by decide) ?_
        exact r_mask [true, true, true, true, false] rfl (hJ8 _ _ h)
set_option maxHeartbeats 4000000 in
set_option maxRecDepth 100000 in
theorem tX5_awayT (l : Launch) (hlt : l.stackTraces = false) (G : gX) (u : gU) (hF : gFull u) (a0 : Nat) (p1 : Int32) (p2 : Int32) (p3 : Int32) (m : gM) (o : gM × Nat × Int32) (h : fX5_away a0 p1 p2 p3 m = some o) (hz : o.2.1 ≠ 0) (h0 : gIn u a0 4 0) : gMetT l G u yX5_away (.code yX5_away cX5_away 5 (some .int)) rmX5_awayT [.ref a0, .int p1, .int p2, .int p3] m o.1 (gEn o.2.1) := by
  refine gMetT_of hlt (own := RX5) (k := 1) (by decide) rfl ⟨rfl, rfl⟩ (Nat.le_of_ble_eq_true rfl) [some (.ref a0), some (.int p1), some (.int p2), some (.int p3), none] rfl (fun Y hG hu hnL hLn hRm he => ?_)
  subst hG hu hLn
  unfold fX5_away at h
  refine r_aload_n (pc := 0) dX5_away_0 rfl rfl ?_
  refine fX5_19 (pc := 1) hF dX5_away_1 h0 (fun b26 => ?_)
  refine r_iload_n (pc := 4) dX5_away_4 rfl rfl ?_
  obtain ⟨m27, x28, q29, h⟩ := gCl_some h
  refine r_callVN (kd := 0) (pc := 5) [.int _] (tX0_hasCustomer _ _ _ hF _ _ _ _ q29 b26) ⟨rfl, rfl⟩ cd_X0_hasCustomer wX5_84 nm_X0_hasCustomer rfl (by rw [hRm]; decide) rfl (Nat.le_of_ble_eq_true rfl) rfl (by decide) b26 dX5_away_5 ?_
  refine r_jnK h (fun (k32 : Int32 → gM → Option (gM × Nat × Int32)) => ∀ (x30 : Int32) (m31 : gM), k32 x30 m31 = some o → AW Y cX5_away RX5 25 [some (.ref a0), some (.int p1), some (.int p2), some (.int p3), none] [.int x30] m31) (fun x30 m31 h => ?_) (fun k32 hJ33 h => ?_)
  · rcases gDem_thr h with ⟨g34, eg34⟩ | ⟨g34, h⟩
    · subst eg34
      exact r_callST (pc := 25) [.int _] (tX5_demandPlaceT _ hlt _ _ _ _ g34) ⟨rfl, rfl⟩ cd_X5_demandPlace wX5_88 nm_X5_demandPlace rfl (by rw [hRm]; decide) rfl (Nat.le_of_ble_eq_true rfl) dX5_away_25 he
    refine r_callS (pc := 25) [.int _] (tX5_demandPlace _ _ _ _ _ g34) ⟨rfl, rfl⟩ cd_X5_demandPlace wX5_88 nm_X5_demandPlace rfl (by rw [hRm]; decide) rfl (Nat.le_of_ble_eq_true rfl) dX5_away_25 ?_
    refine r_iload_n (pc := 28) dX5_away_28 rfl rfl ?_
    refine r_iconst (pc := 29) (v := 0) dX5_away_29 (by decide) ?_
    refine r_iconst (pc := 30) (v := 1) dX5_away_30 (by decide) ?_
    obtain ⟨m35, x36, q37, h⟩ := gCl_some h
    refine r_callS (pc := 31) [.int _, .int _, .int _] (tX5_isWithin _ _ _ hF _ _ _ _ _ q37) ⟨rfl, rfl⟩ cd_X5_isWithin wX5_41 nm_X5_isWithin rfl (by rw [hRm]; decide) rfl (Nat.le_of_ble_eq_true rfl) dX5_away_31 ?_
    rcases gDem_thr h with ⟨g38, eg38⟩ | ⟨g38, h⟩
    · subst eg38
      exact r_callST (pc := 34) [.int _] (tX5_demandArgumentT _ hlt _ _ _ _ g38) ⟨rfl, rfl⟩ cd_X5_demandArgument wX5_45 nm_X5_demandArgument rfl (by rw [hRm]; decide) rfl (Nat.le_of_ble_eq_true rfl) dX5_away_34 he
    refine r_callS (pc := 34) [.int _] (tX5_demandArgument _ _ _ _ _ g38) ⟨rfl, rfl⟩ cd_X5_demandArgument wX5_45 nm_X5_demandArgument rfl (by rw [hRm]; decide) rfl (Nat.le_of_ble_eq_true rfl) dX5_away_34 ?_
    refine r_aload_n (pc := 37) dX5_away_37 rfl rfl ?_
    refine fX5_19 (pc := 38) hF dX5_away_38 h0 (fun b39 => ?_)
    refine fX5_91 (pc := 41) hF dX5_away_41 b39 (fun b40 => ?_)
    refine r_iload_n (pc := 44) dX5_away_44 rfl rfl ?_
    refine r_cust (pc := 45) hF dX5_away_45 b40 h (fun c41 b42 h => ?_)
    refine r_astore (pc := 46) dX5_away_46 (by rw [hnL]; decide) rfl ?_
    refine r_iload_n (pc := 48) dX5_away_48 rfl rfl ?_
    refine r_aload (pc := 49) dX5_away_49 rfl ?_
    refine fX5_114 (pc := 51) dX5_away_51 b42 h (fun x43 h => ?_)
    refine r_icmp_lt (pc := 54) (tgt := 59) dX5_away_54 (by decide) h (fun h => ?_) (fun h => ?_)
    · refine r_iload_n (pc := 59) dX5_away_59 rfl rfl ?_
      refine r_if_ne (pc := 60) (tgt := 73) dX5_away_60 (by decide) h (fun h => ?_) (fun h => ?_)
      · refine r_aload (pc := 73) dX5_away_73 rfl ?_
        refine fX5_120 (pc := 75) hF dX5_away_75 b42 (fun b44 => ?_)
        refine r_iload_n (pc := 78) dX5_away_78 rfl rfl ?_
        refine r_iald (pc := 79) dX5_away_79 b44 h (fun x45 h => ?_)
        cases h
        exact absurd rfl hz
      · refine r_aload (pc := 63) dX5_away_63 rfl ?_
        refine fX5_117 (pc := 65) hF dX5_away_65 b42 (fun b46 => ?_)
        refine r_iload_n (pc := 68) dX5_away_68 rfl rfl ?_
        refine r_iald (pc := 69) dX5_away_69 b46 h (fun x47 h => ?_)
        refine r_goto (pc := 70) (tgt := 80) dX5_away_70 (by decide) ?_
        cases h
        exact absurd rfl hz
    · refine r_iconst (pc := 57) (v := (-1)) dX5_away_57 (by decide) ?_
      cases h
      exact absurd rfl hz
  · refine r_if_eq (pc := 8) (tgt := 24) dX5_away_8 (by decide) h (fun h => ?_) (fun h => ?_)
    · refine r_iconst (pc := 24) (v := 0) dX5_away_24 (by decide) ?_
      exact r_mask [true, true, true, true, false] rfl (hJ33 _ _ h)
    · refine r_iload_n (pc := 11) dX5_away_11 rfl rfl ?_
      refine r_iconst (pc := 12) (v := 0) dX5_away_12 (by decide) ?_
      refine r_iconst (pc := 13) (v := 2) dX5_away_13 (by decide) ?_
      obtain ⟨m48, x49, q50, h⟩ := gCl_some h
      refine r_callS (pc := 14) [.int _, .int _, .int _] (tX5_isWithin _ _ _ hF _ _ _ _ _ q50) ⟨rfl, rfl⟩ cd_X5_isWithin wX5_41 nm_X5_isWithin rfl (by rw [hRm]; decide) rfl (Nat.le_of_ble_eq_true rfl) dX5_away_14 ?_
      refine r_if_eq (pc := 17) (tgt := 24) dX5_away_17 (by decide) h (fun h => ?_) (fun h => ?_)
      · refine r_iconst (pc := 24) (v := 0) dX5_away_24 (by decide) ?_
        exact r_mask [true, true, true, true, false] rfl (hJ33 _ _ h)
      · refine r_iconst (pc := 20) (v := 1) dX5_away_20 (by decide) ?_
        refine r_goto (pc := 21) (tgt := 25) dX5_away_21 (by decide) ?_
        exact r_mask [true, true, true, true, false] rfl (hJ33 _ _ h)
set_option maxHeartbeats 4000000 in
set_option maxRecDepth 100000 in
theorem tX5_isClosed (l : Launch) (G : gX) (u : gU) (hF : gFull u) (a0 : Nat) (p1 : Int32) (p2 : Int32) (m : gM) (o : gM × Nat × Int32) (h : fX5_isClosed a0 p1 p2 m = some o) (hz : o.2.1 = 0) (h0 : gIn u a0 4 0) : gMet l G u yX5_isClosed (.code yX5_isClosed cX5_isClosed 3 (some .int)) rmX5_isClosed [.ref a0, .int p1, .int p2] m o.1 (some (.int o.2.2)) := by
  refine gMet_of (own := RX5) (k := 0) (by decide) rfl ⟨rfl, rfl⟩ (Nat.le_of_ble_eq_true rfl) [some (.ref a0), some (.int p1), some (.int p2)] rfl (fun Y hG hu hnL hLn hRm he => ?_)
  subst hG hu hLn
  unfold fX5_isClosed at h
  refine r_iload_n (pc := 0) dX5_isClosed_0 rfl rfl ?_
  obtain ⟨m1, x2, q3, h⟩ := gCl_some h
  refine r_callS (pc := 1) [.int _] (tX5_isStreet _ _ _ hF _ _ _ q3) ⟨rfl, rfl⟩ cd_X5_isStreet wX5_123 nm_X5_isStreet rfl (by rw [hRm]; decide) rfl (Nat.le_of_ble_eq_true rfl) dX5_isClosed_1 ?_
  refine r_jnK h (fun (k6 : Int32 → gM → Option (gM × Nat × Int32)) => ∀ (x4 : Int32) (m5 : gM), k6 x4 m5 = some o → AW Y cX5_isClosed RX5 19 [some (.ref a0), some (.int p1), some (.int p2)] [.int x4] m5) (fun x4 m5 h => ?_) (fun k6 hJ7 h => ?_)
  · obtain ⟨g8, h⟩ := gDem_ret (by decide) h hz
    refine r_callS (pc := 19) [.int _] (tX5_demandPlace _ _ _ _ _ g8) ⟨rfl, rfl⟩ cd_X5_demandPlace wX5_88 nm_X5_demandPlace rfl (by rw [hRm]; decide) rfl (Nat.le_of_ble_eq_true rfl) dX5_isClosed_19 ?_
    refine r_aload_n (pc := 22) dX5_isClosed_22 rfl rfl ?_
    refine fX5_19 (pc := 23) hF dX5_isClosed_23 h0 (fun b9 => ?_)
    refine r_iload_n (pc := 26) dX5_isClosed_26 rfl rfl ?_
    refine r_iload_n (pc := 27) dX5_isClosed_27 rfl rfl ?_
    obtain ⟨m10, x11, q12, h⟩ := gCl_some h
    refine r_callVN (kd := 0) (pc := 28) [.int _, .int _] (tX0_isShut _ _ _ hF _ _ _ _ _ q12 b9) ⟨rfl, rfl⟩ cd_X0_isShut wX5_126 nm_X0_isShut rfl (by rw [hRm]; decide) rfl (Nat.le_of_ble_eq_true rfl) rfl (by decide) b9 dX5_isClosed_28 ?_
    refine r_if_eq (pc := 31) (tgt := 38) dX5_isClosed_31 (by decide) h (fun h => ?_) (fun h => ?_)
    · refine r_iconst (pc := 38) (v := 0) dX5_isClosed_38 (by decide) ?_
      exact r_iretX dX5_isClosed_39 h he
    · refine r_iconst (pc := 34) (v := 1) dX5_isClosed_34 (by decide) ?_
      refine r_goto (pc := 35) (tgt := 39) dX5_isClosed_35 (by decide) ?_
      exact r_iretX dX5_isClosed_39 h he
  · refine r_if_eq (pc := 4) (tgt := 18) dX5_isClosed_4 (by decide) h (fun h => ?_) (fun h => ?_)
    · refine r_iconst (pc := 18) (v := 0) dX5_isClosed_18 (by decide) ?_
      exact r_mask [true, true, true] rfl (hJ7 _ _ h)
    · refine r_iload_n (pc := 7) dX5_isClosed_7 rfl rfl ?_
      obtain ⟨m13, x14, q15, h⟩ := gCl_some h
      refine r_callS (pc := 8) [.int _] (tX5_isWeekday _ _ _ hF _ _ _ q15) ⟨rfl, rfl⟩ cd_X5_isWeekday wX5_107 nm_X5_isWeekday rfl (by rw [hRm]; decide) rfl (Nat.le_of_ble_eq_true rfl) dX5_isClosed_8 ?_
      refine r_if_eq (pc := 11) (tgt := 18) dX5_isClosed_11 (by decide) h (fun h => ?_) (fun h => ?_)
      · refine r_iconst (pc := 18) (v := 0) dX5_isClosed_18 (by decide) ?_
        exact r_mask [true, true, true] rfl (hJ7 _ _ h)
      · refine r_iconst (pc := 14) (v := 1) dX5_isClosed_14 (by decide) ?_
        refine r_goto (pc := 15) (tgt := 19) dX5_isClosed_15 (by decide) ?_
        exact r_mask [true, true, true] rfl (hJ7 _ _ h)
set_option maxHeartbeats 4000000 in
set_option maxRecDepth 100000 in
theorem tX5_isClosedT (l : Launch) (hlt : l.stackTraces = false) (G : gX) (u : gU) (hF : gFull u) (a0 : Nat) (p1 : Int32) (p2 : Int32) (m : gM) (o : gM × Nat × Int32) (h : fX5_isClosed a0 p1 p2 m = some o) (hz : o.2.1 ≠ 0) (h0 : gIn u a0 4 0) : gMetT l G u yX5_isClosed (.code yX5_isClosed cX5_isClosed 3 (some .int)) rmX5_isClosedT [.ref a0, .int p1, .int p2] m o.1 (gEn o.2.1) := by
  refine gMetT_of hlt (own := RX5) (k := 0) (by decide) rfl ⟨rfl, rfl⟩ (Nat.le_of_ble_eq_true rfl) [some (.ref a0), some (.int p1), some (.int p2)] rfl (fun Y hG hu hnL hLn hRm he => ?_)
  subst hG hu hLn
  unfold fX5_isClosed at h
  refine r_iload_n (pc := 0) dX5_isClosed_0 rfl rfl ?_
  obtain ⟨m16, x17, q18, h⟩ := gCl_some h
  refine r_callS (pc := 1) [.int _] (tX5_isStreet _ _ _ hF _ _ _ q18) ⟨rfl, rfl⟩ cd_X5_isStreet wX5_123 nm_X5_isStreet rfl (by rw [hRm]; decide) rfl (Nat.le_of_ble_eq_true rfl) dX5_isClosed_1 ?_
  refine r_jnK h (fun (k21 : Int32 → gM → Option (gM × Nat × Int32)) => ∀ (x19 : Int32) (m20 : gM), k21 x19 m20 = some o → AW Y cX5_isClosed RX5 19 [some (.ref a0), some (.int p1), some (.int p2)] [.int x19] m20) (fun x19 m20 h => ?_) (fun k21 hJ22 h => ?_)
  · rcases gDem_thr h with ⟨g23, eg23⟩ | ⟨g23, h⟩
    · subst eg23
      exact r_callST (pc := 19) [.int _] (tX5_demandPlaceT _ hlt _ _ _ _ g23) ⟨rfl, rfl⟩ cd_X5_demandPlace wX5_88 nm_X5_demandPlace rfl (by rw [hRm]; decide) rfl (Nat.le_of_ble_eq_true rfl) dX5_isClosed_19 he
    refine r_callS (pc := 19) [.int _] (tX5_demandPlace _ _ _ _ _ g23) ⟨rfl, rfl⟩ cd_X5_demandPlace wX5_88 nm_X5_demandPlace rfl (by rw [hRm]; decide) rfl (Nat.le_of_ble_eq_true rfl) dX5_isClosed_19 ?_
    refine r_aload_n (pc := 22) dX5_isClosed_22 rfl rfl ?_
    refine fX5_19 (pc := 23) hF dX5_isClosed_23 h0 (fun b24 => ?_)
    refine r_iload_n (pc := 26) dX5_isClosed_26 rfl rfl ?_
    refine r_iload_n (pc := 27) dX5_isClosed_27 rfl rfl ?_
    obtain ⟨m25, x26, q27, h⟩ := gCl_some h
    refine r_callVN (kd := 0) (pc := 28) [.int _, .int _] (tX0_isShut _ _ _ hF _ _ _ _ _ q27 b24) ⟨rfl, rfl⟩ cd_X0_isShut wX5_126 nm_X0_isShut rfl (by rw [hRm]; decide) rfl (Nat.le_of_ble_eq_true rfl) rfl (by decide) b24 dX5_isClosed_28 ?_
    refine r_if_eq (pc := 31) (tgt := 38) dX5_isClosed_31 (by decide) h (fun h => ?_) (fun h => ?_)
    · refine r_iconst (pc := 38) (v := 0) dX5_isClosed_38 (by decide) ?_
      cases h
      exact absurd rfl hz
    · refine r_iconst (pc := 34) (v := 1) dX5_isClosed_34 (by decide) ?_
      refine r_goto (pc := 35) (tgt := 39) dX5_isClosed_35 (by decide) ?_
      cases h
      exact absurd rfl hz
  · refine r_if_eq (pc := 4) (tgt := 18) dX5_isClosed_4 (by decide) h (fun h => ?_) (fun h => ?_)
    · refine r_iconst (pc := 18) (v := 0) dX5_isClosed_18 (by decide) ?_
      exact r_mask [true, true, true] rfl (hJ22 _ _ h)
    · refine r_iload_n (pc := 7) dX5_isClosed_7 rfl rfl ?_
      obtain ⟨m28, x29, q30, h⟩ := gCl_some h
      refine r_callS (pc := 8) [.int _] (tX5_isWeekday _ _ _ hF _ _ _ q30) ⟨rfl, rfl⟩ cd_X5_isWeekday wX5_107 nm_X5_isWeekday rfl (by rw [hRm]; decide) rfl (Nat.le_of_ble_eq_true rfl) dX5_isClosed_8 ?_
      refine r_if_eq (pc := 11) (tgt := 18) dX5_isClosed_11 (by decide) h (fun h => ?_) (fun h => ?_)
      · refine r_iconst (pc := 18) (v := 0) dX5_isClosed_18 (by decide) ?_
        exact r_mask [true, true, true] rfl (hJ22 _ _ h)
      · refine r_iconst (pc := 14) (v := 1) dX5_isClosed_14 (by decide) ?_
        refine r_goto (pc := 15) (tgt := 19) dX5_isClosed_15 (by decide) ?_
        exact r_mask [true, true, true] rfl (hJ22 _ _ h)
set_option maxHeartbeats 4000000 in
set_option maxRecDepth 100000 in
theorem tX5_round (l : Launch) (G : gX) (u : gU) (hF : gFull u) (a0 : Nat) (p1 : Int32) (m : gM) (o : gM × Nat × Int32) (h : fX5_round a0 p1 m = some o) (hz : o.2.1 = 0) (h0 : gIn u a0 4 0) : gMet l G u yX5_round (.code yX5_round cX5_round 2 (some .int)) rmX5_round [.ref a0, .int p1] m o.1 (some (.int o.2.2)) := by
  refine gMet_of (own := RX5) (k := 0) (by decide) rfl ⟨rfl, rfl⟩ (Nat.le_of_ble_eq_true rfl) [some (.ref a0), some (.int p1)] rfl (fun Y hG hu hnL hLn hRm he => ?_)
  subst hG hu hLn
  unfold fX5_round at h
  refine r_iload_n (pc := 0) dX5_round_0 rfl rfl ?_
  refine r_iconst (pc := 1) (v := 0) dX5_round_1 (by decide) ?_
  refine r_iconst (pc := 2) (v := 3) dX5_round_2 (by decide) ?_
  obtain ⟨m1, x2, q3, h⟩ := gCl_some h
  refine r_callS (pc := 3) [.int _, .int _, .int _] (tX5_isWithin _ _ _ hF _ _ _ _ _ q3) ⟨rfl, rfl⟩ cd_X5_isWithin wX5_41 nm_X5_isWithin rfl (by rw [hRm]; decide) rfl (Nat.le_of_ble_eq_true rfl) dX5_round_3 ?_
  obtain ⟨g4, h⟩ := gDem_ret (by decide) h hz
  refine r_callS (pc := 6) [.int _] (tX5_demandPlace _ _ _ _ _ g4) ⟨rfl, rfl⟩ cd_X5_demandPlace wX5_88 nm_X5_demandPlace rfl (by rw [hRm]; decide) rfl (Nat.le_of_ble_eq_true rfl) dX5_round_6 ?_
  refine r_aload_n (pc := 9) dX5_round_9 rfl rfl ?_
  refine fX5_19 (pc := 10) hF dX5_round_10 h0 (fun b5 => ?_)
  refine fX5_130 (pc := 13) hF dX5_round_13 b5 (fun b6 => ?_)
  refine r_iload_n (pc := 16) dX5_round_16 rfl rfl ?_
  refine r_iald (pc := 17) dX5_round_17 b6 h (fun x7 h => ?_)
  exact r_iretX dX5_round_18 h he
set_option maxHeartbeats 4000000 in
set_option maxRecDepth 100000 in
theorem tX5_roundT (l : Launch) (hlt : l.stackTraces = false) (G : gX) (u : gU) (hF : gFull u) (a0 : Nat) (p1 : Int32) (m : gM) (o : gM × Nat × Int32) (h : fX5_round a0 p1 m = some o) (hz : o.2.1 ≠ 0) (h0 : gIn u a0 4 0) : gMetT l G u yX5_round (.code yX5_round cX5_round 2 (some .int)) rmX5_roundT [.ref a0, .int p1] m o.1 (gEn o.2.1) := by
  refine gMetT_of hlt (own := RX5) (k := 0) (by decide) rfl ⟨rfl, rfl⟩ (Nat.le_of_ble_eq_true rfl) [some (.ref a0), some (.int p1)] rfl (fun Y hG hu hnL hLn hRm he => ?_)
  subst hG hu hLn
  unfold fX5_round at h
  refine r_iload_n (pc := 0) dX5_round_0 rfl rfl ?_
  refine r_iconst (pc := 1) (v := 0) dX5_round_1 (by decide) ?_
  refine r_iconst (pc := 2) (v := 3) dX5_round_2 (by decide) ?_
  obtain ⟨m8, x9, q10, h⟩ := gCl_some h
  refine r_callS (pc := 3) [.int _, .int _, .int _] (tX5_isWithin _ _ _ hF _ _ _ _ _ q10) ⟨rfl, rfl⟩ cd_X5_isWithin wX5_41 nm_X5_isWithin rfl (by rw [hRm]; decide) rfl (Nat.le_of_ble_eq_true rfl) dX5_round_3 ?_
  rcases gDem_thr h with ⟨g11, eg11⟩ | ⟨g11, h⟩
  · subst eg11
    exact r_callST (pc := 6) [.int _] (tX5_demandPlaceT _ hlt _ _ _ _ g11) ⟨rfl, rfl⟩ cd_X5_demandPlace wX5_88 nm_X5_demandPlace rfl (by rw [hRm]; decide) rfl (Nat.le_of_ble_eq_true rfl) dX5_round_6 he
  refine r_callS (pc := 6) [.int _] (tX5_demandPlace _ _ _ _ _ g11) ⟨rfl, rfl⟩ cd_X5_demandPlace wX5_88 nm_X5_demandPlace rfl (by rw [hRm]; decide) rfl (Nat.le_of_ble_eq_true rfl) dX5_round_6 ?_
  refine r_aload_n (pc := 9) dX5_round_9 rfl rfl ?_
  refine fX5_19 (pc := 10) hF dX5_round_10 h0 (fun b12 => ?_)
  refine fX5_130 (pc := 13) hF dX5_round_13 b12 (fun b13 => ?_)
  refine r_iload_n (pc := 16) dX5_round_16 rfl rfl ?_
  refine r_iald (pc := 17) dX5_round_17 b13 h (fun x14 h => ?_)
  cases h
  exact absurd rfl hz
set_option maxHeartbeats 4000000 in
set_option maxRecDepth 100000 in
theorem tX5_setting (l : Launch) (G : gX) (u : gU) (hF : gFull u) (a0 : Nat) (p1 : Int32) (m : gM) (o : gM × Nat × Int32) (h : fX5_setting a0 p1 m = some o) (hz : o.2.1 = 0) (h0 : gIn u a0 4 0) : gMet l G u yX5_setting (.code yX5_setting cX5_setting 2 (some .int)) rmX5_setting [.ref a0, .int p1] m o.1 (some (.int o.2.2)) := by
  refine gMet_of (own := RX5) (k := 0) (by decide) rfl ⟨rfl, rfl⟩ (Nat.le_of_ble_eq_true rfl) [some (.ref a0), some (.int p1)] rfl (fun Y hG hu hnL hLn hRm he => ?_)
  subst hG hu hLn
  unfold fX5_setting at h
  refine r_iload_n (pc := 0) dX5_setting_0 rfl rfl ?_
  obtain ⟨m1, x2, q3, h⟩ := gCl_some h
  refine r_callS (pc := 1) [.int _] (tX5_isSetting _ _ _ hF _ _ _ q3) ⟨rfl, rfl⟩ cd_X5_isSetting wX5_133 nm_X5_isSetting rfl (by rw [hRm]; decide) rfl (Nat.le_of_ble_eq_true rfl) dX5_setting_1 ?_
  obtain ⟨g4, h⟩ := gDem_ret (by decide) h hz
  refine r_callS (pc := 4) [.int _] (tX5_demandArgument _ _ _ _ _ g4) ⟨rfl, rfl⟩ cd_X5_demandArgument wX5_45 nm_X5_demandArgument rfl (by rw [hRm]; decide) rfl (Nat.le_of_ble_eq_true rfl) dX5_setting_4 ?_
  refine r_aload_n (pc := 7) dX5_setting_7 rfl rfl ?_
  refine fX5_19 (pc := 8) hF dX5_setting_8 h0 (fun b5 => ?_)
  refine fX5_136 (pc := 11) hF dX5_setting_11 b5 (fun b6 => ?_)
  refine r_iload_n (pc := 14) dX5_setting_14 rfl rfl ?_
  refine r_iald (pc := 15) dX5_setting_15 b6 h (fun x7 h => ?_)
  exact r_iretX dX5_setting_16 h he
set_option maxHeartbeats 4000000 in
set_option maxRecDepth 100000 in
theorem tX5_settingT (l : Launch) (hlt : l.stackTraces = false) (G : gX) (u : gU) (hF : gFull u) (a0 : Nat) (p1 : Int32) (m : gM) (o : gM × Nat × Int32) (h : fX5_setting a0 p1 m = some o) (hz : o.2.1 ≠ 0) (h0 : gIn u a0 4 0) : gMetT l G u yX5_setting (.code yX5_setting cX5_setting 2 (some .int)) rmX5_settingT [.ref a0, .int p1] m o.1 (gEn o.2.1) := by
  refine gMetT_of hlt (own := RX5) (k := 0) (by decide) rfl ⟨rfl, rfl⟩ (Nat.le_of_ble_eq_true rfl) [some (.ref a0), some (.int p1)] rfl (fun Y hG hu hnL hLn hRm he => ?_)
  subst hG hu hLn
  unfold fX5_setting at h
  refine r_iload_n (pc := 0) dX5_setting_0 rfl rfl ?_
  obtain ⟨m8, x9, q10, h⟩ := gCl_some h
  refine r_callS (pc := 1) [.int _] (tX5_isSetting _ _ _ hF _ _ _ q10) ⟨rfl, rfl⟩ cd_X5_isSetting wX5_133 nm_X5_isSetting rfl (by rw [hRm]; decide) rfl (Nat.le_of_ble_eq_true rfl) dX5_setting_1 ?_
  rcases gDem_thr h with ⟨g11, eg11⟩ | ⟨g11, h⟩
  · subst eg11
    exact r_callST (pc := 4) [.int _] (tX5_demandArgumentT _ hlt _ _ _ _ g11) ⟨rfl, rfl⟩ cd_X5_demandArgument wX5_45 nm_X5_demandArgument rfl (by rw [hRm]; decide) rfl (Nat.le_of_ble_eq_true rfl) dX5_setting_4 he
  refine r_callS (pc := 4) [.int _] (tX5_demandArgument _ _ _ _ _ g11) ⟨rfl, rfl⟩ cd_X5_demandArgument wX5_45 nm_X5_demandArgument rfl (by rw [hRm]; decide) rfl (Nat.le_of_ble_eq_true rfl) dX5_setting_4 ?_
  refine r_aload_n (pc := 7) dX5_setting_7 rfl rfl ?_
  refine fX5_19 (pc := 8) hF dX5_setting_8 h0 (fun b12 => ?_)
  refine fX5_136 (pc := 11) hF dX5_setting_11 b12 (fun b13 => ?_)
  refine r_iload_n (pc := 14) dX5_setting_14 rfl rfl ?_
  refine r_iald (pc := 15) dX5_setting_15 b13 h (fun x14 h => ?_)
  cases h
  exact absurd rfl hz
set_option maxHeartbeats 4000000 in
set_option maxRecDepth 100000 in
theorem tX5_due (l : Launch) (G : gX) (u : gU) (hF : gFull u) (a0 : Nat) (p1 : Int32) (p2 : Int32) (p3 : Int32) (p4 : Int32) (m : gM) (o : gM × Nat × Int32) (h : fX5_due a0 p1 p2 p3 p4 m = some o) (hz : o.2.1 = 0) (h0 : gIn u a0 4 0) : gMet l G u yX5_due (.code yX5_due cX5_due 6 (some .int)) rmX5_due [.ref a0, .int p1, .int p2, .int p3, .int p4] m o.1 (some (.int o.2.2)) := by
  refine gMet_of (own := RX5) (k := 1) (by decide) rfl ⟨rfl, rfl⟩ (Nat.le_of_ble_eq_true rfl) [some (.ref a0), some (.int p1), some (.int p2), some (.int p3), some (.int p4), none] rfl (fun Y hG hu hnL hLn hRm he => ?_)
  subst hG hu hLn
  unfold fX5_due at h
  refine r_aload_n (pc := 0) dX5_due_0 rfl rfl ?_
  refine fX5_19 (pc := 1) hF dX5_due_1 h0 (fun b1 => ?_)
  refine r_iload_n (pc := 4) dX5_due_4 rfl rfl ?_
  obtain ⟨m2, x3, q4, h⟩ := gCl_some h
  refine r_callVN (kd := 0) (pc := 5) [.int _] (tX0_hasCustomer _ _ _ hF _ _ _ _ q4 b1) ⟨rfl, rfl⟩ cd_X0_hasCustomer wX5_84 nm_X0_hasCustomer rfl (by rw [hRm]; decide) rfl (Nat.le_of_ble_eq_true rfl) rfl (by decide) b1 dX5_due_5 ?_
  obtain ⟨g5, h⟩ := gDem_ret (by decide) h hz
  refine r_callS (pc := 8) [.int _] (tX5_demandPlace _ _ _ _ _ g5) ⟨rfl, rfl⟩ cd_X5_demandPlace wX5_88 nm_X5_demandPlace rfl (by rw [hRm]; decide) rfl (Nat.le_of_ble_eq_true rfl) dX5_due_8 ?_
  refine r_iload_n (pc := 11) dX5_due_11 rfl rfl ?_
  refine r_iconst (pc := 12) (v := 0) dX5_due_12 (by decide) ?_
  refine r_sipush (pc := 13) (v := 999) dX5_due_13 (by decide) ?_
  obtain ⟨m6, x7, q8, h⟩ := gCl_some h
  refine r_callS (pc := 16) [.int _, .int _, .int _] (tX5_isWithin _ _ _ hF _ _ _ _ _ q8) ⟨rfl, rfl⟩ cd_X5_isWithin wX5_41 nm_X5_isWithin rfl (by rw [hRm]; decide) rfl (Nat.le_of_ble_eq_true rfl) dX5_due_16 ?_
  obtain ⟨g9, h⟩ := gDem_ret (by decide) h hz
  refine r_callS (pc := 19) [.int _] (tX5_demandArgument _ _ _ _ _ g9) ⟨rfl, rfl⟩ cd_X5_demandArgument wX5_45 nm_X5_demandArgument rfl (by rw [hRm]; decide) rfl (Nat.le_of_ble_eq_true rfl) dX5_due_19 ?_
  refine r_iload_n (pc := 22) dX5_due_22 rfl rfl ?_
  refine r_iconst (pc := 23) (v := 0) dX5_due_23 (by decide) ?_
  refine r_sipush (pc := 24) (v := 500) dX5_due_24 (by decide) ?_
  obtain ⟨m10, x11, q12, h⟩ := gCl_some h
  refine r_callS (pc := 27) [.int _, .int _, .int _] (tX5_isWithin _ _ _ hF _ _ _ _ _ q12) ⟨rfl, rfl⟩ cd_X5_isWithin wX5_41 nm_X5_isWithin rfl (by rw [hRm]; decide) rfl (Nat.le_of_ble_eq_true rfl) dX5_due_27 ?_
  obtain ⟨g13, h⟩ := gDem_ret (by decide) h hz
  refine r_callS (pc := 30) [.int _] (tX5_demandArgument _ _ _ _ _ g13) ⟨rfl, rfl⟩ cd_X5_demandArgument wX5_45 nm_X5_demandArgument rfl (by rw [hRm]; decide) rfl (Nat.le_of_ble_eq_true rfl) dX5_due_30 ?_
  refine r_iload (pc := 33) dX5_due_33 rfl ?_
  refine r_iconst (pc := 35) (v := 0) dX5_due_35 (by decide) ?_
  refine r_iconst (pc := 36) (v := 1) dX5_due_36 (by decide) ?_
  obtain ⟨m14, x15, q16, h⟩ := gCl_some h
  refine r_callS (pc := 37) [.int _, .int _, .int _] (tX5_isWithin _ _ _ hF _ _ _ _ _ q16) ⟨rfl, rfl⟩ cd_X5_isWithin wX5_41 nm_X5_isWithin rfl (by rw [hRm]; decide) rfl (Nat.le_of_ble_eq_true rfl) dX5_due_37 ?_
  obtain ⟨g17, h⟩ := gDem_ret (by decide) h hz
  refine r_callS (pc := 40) [.int _] (tX5_demandArgument _ _ _ _ _ g17) ⟨rfl, rfl⟩ cd_X5_demandArgument wX5_45 nm_X5_demandArgument rfl (by rw [hRm]; decide) rfl (Nat.le_of_ble_eq_true rfl) dX5_due_40 ?_
  refine r_aload_n (pc := 43) dX5_due_43 rfl rfl ?_
  refine fX5_19 (pc := 44) hF dX5_due_44 h0 (fun b18 => ?_)
  refine fX5_91 (pc := 47) hF dX5_due_47 b18 (fun b19 => ?_)
  refine r_iload_n (pc := 50) dX5_due_50 rfl rfl ?_
  refine r_cust (pc := 51) hF dX5_due_51 b19 h (fun c20 b21 h => ?_)
  refine r_astore (pc := 52) dX5_due_52 (by rw [hnL]; decide) rfl ?_
  refine r_iload (pc := 54) dX5_due_54 rfl ?_
  refine r_if_ne (pc := 56) (tgt := 69) dX5_due_56 (by decide) h (fun h => ?_) (fun h => ?_)
  · refine r_aload (pc := 69) dX5_due_69 rfl ?_
    refine r_iload_n (pc := 71) dX5_due_71 rfl rfl ?_
    refine r_iload_n (pc := 72) dX5_due_72 rfl rfl ?_
    obtain ⟨m22, x23, q24, h⟩ := gCl_some h
    refine r_callVN (kd := 1) (pc := 73) [.int _, .int _] (tX1_dueByWeeks _ _ _ hF _ _ _ _ _ q24 b21) ⟨rfl, rfl⟩ cd_X1_dueByWeeks wX5_143 nm_X1_dueByWeeks rfl (by rw [hRm]; decide) rfl (Nat.le_of_ble_eq_true rfl) rfl (by decide) b21 dX5_due_73 ?_
    exact r_iretX dX5_due_76 h he
  · refine r_aload (pc := 59) dX5_due_59 rfl ?_
    refine r_iload_n (pc := 61) dX5_due_61 rfl rfl ?_
    refine r_iload_n (pc := 62) dX5_due_62 rfl rfl ?_
    obtain ⟨m25, x26, q27, h⟩ := gCl_some h
    refine r_callVN (kd := 1) (pc := 63) [.int _, .int _] (tX1_dueDayByDay _ _ _ hF _ _ _ _ _ q27 b21) ⟨rfl, rfl⟩ cd_X1_dueDayByDay wX5_139 nm_X1_dueDayByDay rfl (by rw [hRm]; decide) rfl (Nat.le_of_ble_eq_true rfl) rfl (by decide) b21 dX5_due_63 ?_
    refine r_goto (pc := 66) (tgt := 76) dX5_due_66 (by decide) ?_
    exact r_iretX dX5_due_76 h he
set_option maxHeartbeats 4000000 in
set_option maxRecDepth 100000 in
theorem tX5_dueT (l : Launch) (hlt : l.stackTraces = false) (G : gX) (u : gU) (hF : gFull u) (a0 : Nat) (p1 : Int32) (p2 : Int32) (p3 : Int32) (p4 : Int32) (m : gM) (o : gM × Nat × Int32) (h : fX5_due a0 p1 p2 p3 p4 m = some o) (hz : o.2.1 ≠ 0) (h0 : gIn u a0 4 0) : gMetT l G u yX5_due (.code yX5_due cX5_due 6 (some .int)) rmX5_dueT [.ref a0, .int p1, .int p2, .int p3, .int p4] m o.1 (gEn o.2.1) := by
  refine gMetT_of hlt (own := RX5) (k := 1) (by decide) rfl ⟨rfl, rfl⟩ (Nat.le_of_ble_eq_true rfl) [some (.ref a0), some (.int p1), some (.int p2), some (.int p3), some (.int p4), none] rfl (fun Y hG hu hnL hLn hRm he => ?_)
  subst hG hu hLn
  unfold fX5_due at h
  refine r_aload_n (pc := 0) dX5_due_0 rfl rfl ?_
  refine fX5_19 (pc := 1) hF dX5_due_1 h0 (fun b28 => ?_)
  refine r_iload_n (pc := 4) dX5_due_4 rfl rfl ?_
  obtain ⟨m29, x30, q31, h⟩ := gCl_some h
  refine r_callVN (kd := 0) (pc := 5) [.int _] (tX0_hasCustomer _ _ _ hF _ _ _ _ q31 b28) ⟨rfl, rfl⟩ cd_X0_hasCustomer wX5_84 nm_X0_hasCustomer rfl (by rw [hRm]; decide) rfl (Nat.le_of_ble_eq_true rfl) rfl (by decide) b28 dX5_due_5 ?_
  rcases gDem_thr h with ⟨g32, eg32⟩ | ⟨g32, h⟩
  · subst eg32
    exact r_callST (pc := 8) [.int _] (tX5_demandPlaceT _ hlt _ _ _ _ g32) ⟨rfl, rfl⟩ cd_X5_demandPlace wX5_88 nm_X5_demandPlace rfl (by rw [hRm]; decide) rfl (Nat.le_of_ble_eq_true rfl) dX5_due_8 he
  refine r_callS (pc := 8) [.int _] (tX5_demandPlace _ _ _ _ _ g32) ⟨rfl, rfl⟩ cd_X5_demandPlace wX5_88 nm_X5_demandPlace rfl (by rw [hRm]; decide) rfl (Nat.le_of_ble_eq_true rfl) dX5_due_8 ?_
  refine r_iload_n (pc := 11) dX5_due_11 rfl rfl ?_
  refine r_iconst (pc := 12) (v := 0) dX5_due_12 (by decide) ?_
  refine r_sipush (pc := 13) (v := 999) dX5_due_13 (by decide) ?_
  obtain ⟨m33, x34, q35, h⟩ := gCl_some h
  refine r_callS (pc := 16) [.int _, .int _, .int _] (tX5_isWithin _ _ _ hF _ _ _ _ _ q35) ⟨rfl, rfl⟩ cd_X5_isWithin wX5_41 nm_X5_isWithin rfl (by rw [hRm]; decide) rfl (Nat.le_of_ble_eq_true rfl) dX5_due_16 ?_
  rcases gDem_thr h with ⟨g36, eg36⟩ | ⟨g36, h⟩
  · subst eg36
    exact r_callST (pc := 19) [.int _] (tX5_demandArgumentT _ hlt _ _ _ _ g36) ⟨rfl, rfl⟩ cd_X5_demandArgument wX5_45 nm_X5_demandArgument rfl (by rw [hRm]; decide) rfl (Nat.le_of_ble_eq_true rfl) dX5_due_19 he
  refine r_callS (pc := 19) [.int _] (tX5_demandArgument _ _ _ _ _ g36) ⟨rfl, rfl⟩ cd_X5_demandArgument wX5_45 nm_X5_demandArgument rfl (by rw [hRm]; decide) rfl (Nat.le_of_ble_eq_true rfl) dX5_due_19 ?_
  refine r_iload_n (pc := 22) dX5_due_22 rfl rfl ?_
  refine r_iconst (pc := 23) (v := 0) dX5_due_23 (by decide) ?_
  refine r_sipush (pc := 24) (v := 500) dX5_due_24 (by decide) ?_
  obtain ⟨m37, x38, q39, h⟩ := gCl_some h
  refine r_callS (pc := 27) [.int _, .int _, .int _] (tX5_isWithin _ _ _ hF _ _ _ _ _ q39) ⟨rfl, rfl⟩ cd_X5_isWithin wX5_41 nm_X5_isWithin rfl (by rw [hRm]; decide) rfl (Nat.le_of_ble_eq_true rfl) dX5_due_27 ?_
  rcases gDem_thr h with ⟨g40, eg40⟩ | ⟨g40, h⟩
  · subst eg40
    exact r_callST (pc := 30) [.int _] (tX5_demandArgumentT _ hlt _ _ _ _ g40) ⟨rfl, rfl⟩ cd_X5_demandArgument wX5_45 nm_X5_demandArgument rfl (by rw [hRm]; decide) rfl (Nat.le_of_ble_eq_true rfl) dX5_due_30 he
  refine r_callS (pc := 30) [.int _] (tX5_demandArgument _ _ _ _ _ g40) ⟨rfl, rfl⟩ cd_X5_demandArgument wX5_45 nm_X5_demandArgument rfl (by rw [hRm]; decide) rfl (Nat.le_of_ble_eq_true rfl) dX5_due_30 ?_
  refine r_iload (pc := 33) dX5_due_33 rfl ?_
  refine r_iconst (pc := 35) (v := 0) dX5_due_35 (by decide) ?_
  refine r_iconst (pc := 36) (v := 1) dX5_due_36 (by decide) ?_
  obtain ⟨m41, x42, q43, h⟩ := gCl_some h
  refine r_callS (pc := 37) [.int _, .int _, .int _] (tX5_isWithin _ _ _ hF _ _ _ _ _ q43) ⟨rfl, rfl⟩ cd_X5_isWithin wX5_41 nm_X5_isWithin rfl (by rw [hRm]; decide) rfl (Nat.le_of_ble_eq_true rfl) dX5_due_37 ?_
  rcases gDem_thr h with ⟨g44, eg44⟩ | ⟨g44, h⟩
  · subst eg44
    exact r_callST (pc := 40) [.int _] (tX5_demandArgumentT _ hlt _ _ _ _ g44) ⟨rfl, rfl⟩ cd_X5_demandArgument wX5_45 nm_X5_demandArgument rfl (by rw [hRm]; decide) rfl (Nat.le_of_ble_eq_true rfl) dX5_due_40 he
  refine r_callS (pc := 40) [.int _] (tX5_demandArgument _ _ _ _ _ g44) ⟨rfl, rfl⟩ cd_X5_demandArgument wX5_45 nm_X5_demandArgument rfl (by rw [hRm]; decide) rfl (Nat.le_of_ble_eq_true rfl) dX5_due_40 ?_
  refine r_aload_n (pc := 43) dX5_due_43 rfl rfl ?_
  refine fX5_19 (pc := 44) hF dX5_due_44 h0 (fun b45 => ?_)
  refine fX5_91 (pc := 47) hF dX5_due_47 b45 (fun b46 => ?_)
  refine r_iload_n (pc := 50) dX5_due_50 rfl rfl ?_
  refine r_cust (pc := 51) hF dX5_due_51 b46 h (fun c47 b48 h => ?_)
  refine r_astore (pc := 52) dX5_due_52 (by rw [hnL]; decide) rfl ?_
  refine r_iload (pc := 54) dX5_due_54 rfl ?_
  refine r_if_ne (pc := 56) (tgt := 69) dX5_due_56 (by decide) h (fun h => ?_) (fun h => ?_)
  · refine r_aload (pc := 69) dX5_due_69 rfl ?_
    refine r_iload_n (pc := 71) dX5_due_71 rfl rfl ?_
    refine r_iload_n (pc := 72) dX5_due_72 rfl rfl ?_
    obtain ⟨m49, x50, q51, h⟩ := gCl_some h
    refine r_callVN (kd := 1) (pc := 73) [.int _, .int _] (tX1_dueByWeeks _ _ _ hF _ _ _ _ _ q51 b48) ⟨rfl, rfl⟩ cd_X1_dueByWeeks wX5_143 nm_X1_dueByWeeks rfl (by rw [hRm]; decide) rfl (Nat.le_of_ble_eq_true rfl) rfl (by decide) b48 dX5_due_73 ?_
    cases h
    exact absurd rfl hz
  · refine r_aload (pc := 59) dX5_due_59 rfl ?_
    refine r_iload_n (pc := 61) dX5_due_61 rfl rfl ?_
    refine r_iload_n (pc := 62) dX5_due_62 rfl rfl ?_
    obtain ⟨m52, x53, q54, h⟩ := gCl_some h
    refine r_callVN (kd := 1) (pc := 63) [.int _, .int _] (tX1_dueDayByDay _ _ _ hF _ _ _ _ _ q54 b48) ⟨rfl, rfl⟩ cd_X1_dueDayByDay wX5_139 nm_X1_dueDayByDay rfl (by rw [hRm]; decide) rfl (Nat.le_of_ble_eq_true rfl) rfl (by decide) b48 dX5_due_63 ?_
    refine r_goto (pc := 66) (tgt := 76) dX5_due_66 (by decide) ?_
    cases h
    exact absurd rfl hz
set_option maxHeartbeats 4000000 in
set_option maxRecDepth 100000 in
theorem tX5_act (l : Launch) (G : gX) (u : gU) (hF : gFull u) (a0 : Nat) (p1 : Int32) (p2 : Int32) (p3 : Int32) (p4 : Int32) (m : gM) (o : gM × Nat × Int32) (h : fX5_act a0 p1 p2 p3 p4 m = some o) (hz : o.2.1 = 0) (h0 : gIn u a0 4 0) : gMet l G u yX5_act (.code yX5_act cX5_act 6 (some .int)) rmX5_act [.ref a0, .int p1, .int p2, .int p3, .int p4] m o.1 (some (.int o.2.2)) := by
  refine gMet_of (own := RX5) (k := 1) (by decide) rfl ⟨rfl, rfl⟩ (Nat.le_of_ble_eq_true rfl) [some (.ref a0), some (.int p1), some (.int p2), some (.int p3), some (.int p4), none] rfl (fun Y hG hu hnL hLn hRm he => ?_)
  subst hG hu hLn
  unfold fX5_act at h
  refine r_aload_n (pc := 0) dX5_act_0 rfl rfl ?_
  refine fX5_19 (pc := 1) hF dX5_act_1 h0 (fun b1 => ?_)
  refine r_iload_n (pc := 4) dX5_act_4 rfl rfl ?_
  refine r_iload_n (pc := 5) dX5_act_5 rfl rfl ?_
  refine r_iload_n (pc := 6) dX5_act_6 rfl rfl ?_
  refine r_iload (pc := 7) dX5_act_7 rfl ?_
  obtain ⟨m2, x3, q4, h⟩ := gCl_some h
  refine r_callVN (kd := 0) (pc := 9) [.int _, .int _, .int _, .int _] (tX0_refusalOf _ _ _ hF _ _ _ _ _ _ _ q4 b1) ⟨rfl, rfl⟩ cd_X0_refusalOf wX5_210 nm_X0_refusalOf rfl (by rw [hRm]; decide) rfl (Nat.le_of_ble_eq_true rfl) rfl (by decide) b1 dX5_act_9 ?_
  obtain ⟨b5, h⟩ := gOkE_some h
  refine r_astore (pc := 12) dX5_act_12 (by rw [hnL]; decide) rfl ?_
  refine r_aload (pc := 14) dX5_act_14 rfl ?_
  refine sX5_214 (pc := 16) dX5_act_16 ?_
  refine r_jn1 h (fun x6 => AW Y cX5_act RX5 27 [some (.ref a0), some (.int p1), some (.int p2), some (.int p3), some (.int p4), some (.ref x3)] [.int x6] m2) (fun x6 h => ?_) (fun hJ7 => ?_)
  · obtain ⟨g9, h⟩ := gDem_ret (by decide) h hz
    refine r_callS (pc := 27) [.int _] (tX5_demandPlace _ _ _ _ _ g9) ⟨rfl, rfl⟩ cd_X5_demandPlace wX5_88 nm_X5_demandPlace rfl (by rw [hRm]; decide) rfl (Nat.le_of_ble_eq_true rfl) dX5_act_27 ?_
    refine r_aload (pc := 30) dX5_act_30 rfl ?_
    refine sX5_220 (pc := 32) dX5_act_32 ?_
    refine r_jn1 h (fun x10 => AW Y cX5_act RX5 43 [some (.ref a0), some (.int p1), some (.int p2), some (.int p3), some (.int p4), some (.ref x3)] [.int x10] m2) (fun x10 h => ?_) (fun hJ11 => ?_)
    · obtain ⟨g13, h⟩ := gDem_ret (by decide) h hz
      refine r_callS (pc := 43) [.int _] (tX5_demandArgument _ _ _ _ _ g13) ⟨rfl, rfl⟩ cd_X5_demandArgument wX5_45 nm_X5_demandArgument rfl (by rw [hRm]; decide) rfl (Nat.le_of_ble_eq_true rfl) dX5_act_43 ?_
      refine r_aload (pc := 46) dX5_act_46 rfl ?_
      refine sX5_223 (pc := 48) dX5_act_48 ?_
      refine r_jn1 h (fun x14 => AW Y cX5_act RX5 59 [some (.ref a0), some (.int p1), some (.int p2), some (.int p3), some (.int p4), none] [.int x14] m2) (fun x14 h => ?_) (fun hJ15 => ?_)
      · obtain ⟨g17, h⟩ := gDem_ret (by decide) h hz
        refine r_callS (pc := 59) [.int _] (tX5_demandState _ _ _ _ _ g17) ⟨rfl, rfl⟩ cd_X5_demandState wX5_53 nm_X5_demandState rfl (by rw [hRm]; decide) rfl (Nat.le_of_ble_eq_true rfl) dX5_act_59 ?_
        refine r_aload_n (pc := 62) dX5_act_62 rfl rfl ?_
        refine fX5_29 (pc := 63) hF dX5_act_63 h0 (fun b18 => ?_)
        refine r_aload_n (pc := 66) dX5_act_66 rfl rfl ?_
        refine fX5_19 (pc := 67) hF dX5_act_67 h0 (fun b19 => ?_)
        obtain ⟨m20, q22, h⟩ := gCv_some h
        refine r_callVN (kd := 2) (pc := 70) [.ref _] (tX2_keep _ _ _ hF _ _ _ _ q22 b18 b19) ⟨rfl, rfl⟩ cd_X2_keep wX5_226 nm_X2_keep rfl (by rw [hRm]; decide) rfl (Nat.le_of_ble_eq_true rfl) rfl (by decide) b18 dX5_act_70 ?_
        refine r_aload_n (pc := 73) dX5_act_73 rfl rfl ?_
        refine fX5_19 (pc := 74) hF dX5_act_74 h0 (fun b23 => ?_)
        refine r_iload_n (pc := 77) dX5_act_77 rfl rfl ?_
        refine r_iload_n (pc := 78) dX5_act_78 rfl rfl ?_
        refine r_iload_n (pc := 79) dX5_act_79 rfl rfl ?_
        refine r_iload (pc := 80) dX5_act_80 rfl ?_
        obtain ⟨m24, x25, q26, h⟩ := gCl_some h
        refine r_callVN (kd := 0) (pc := 82) [.int _, .int _, .int _, .int _] (tX0_perform _ _ _ hF _ _ _ _ _ _ _ q26 b23) ⟨rfl, rfl⟩ cd_X0_perform wX5_229 nm_X0_perform rfl (by rw [hRm]; decide) rfl (Nat.le_of_ble_eq_true rfl) rfl (by decide) b23 dX5_act_82 ?_
        exact r_iretX dX5_act_85 h he
      · refine r_acmpC_eq (pc := 51) (tgt := 58) dX5_act_51 (by decide) b5 (gEnum 3 (by decide)) (fun g16 => ?_) (fun g16 => ?_)
        · refine r_iconst (pc := 58) (v := 0) dX5_act_58 (by decide) ?_
          exact r_mask [true, true, true, true, true, false] rfl (hJ15 _ (by rw [if_pos g16]))
        · refine r_iconst (pc := 54) (v := 1) dX5_act_54 (by decide) ?_
          refine r_goto (pc := 55) (tgt := 59) dX5_act_55 (by decide) ?_
          exact r_mask [true, true, true, true, true, false] rfl (hJ15 _ (by rw [if_neg g16]))
    · refine r_acmpC_eq (pc := 35) (tgt := 42) dX5_act_35 (by decide) b5 (gEnum 2 (by decide)) (fun g12 => ?_) (fun g12 => ?_)
      · refine r_iconst (pc := 42) (v := 0) dX5_act_42 (by decide) ?_
        exact r_mask [true, true, true, true, true, true] rfl (hJ11 _ (by rw [if_pos g12]))
      · refine r_iconst (pc := 38) (v := 1) dX5_act_38 (by decide) ?_
        refine r_goto (pc := 39) (tgt := 43) dX5_act_39 (by decide) ?_
        exact r_mask [true, true, true, true, true, true] rfl (hJ11 _ (by rw [if_neg g12]))
  · refine r_acmpC_eq (pc := 19) (tgt := 26) dX5_act_19 (by decide) b5 (gEnum 1 (by decide)) (fun g8 => ?_) (fun g8 => ?_)
    · refine r_iconst (pc := 26) (v := 0) dX5_act_26 (by decide) ?_
      exact r_mask [true, true, true, true, true, true] rfl (hJ7 _ (by rw [if_pos g8]))
    · refine r_iconst (pc := 22) (v := 1) dX5_act_22 (by decide) ?_
      refine r_goto (pc := 23) (tgt := 27) dX5_act_23 (by decide) ?_
      exact r_mask [true, true, true, true, true, true] rfl (hJ7 _ (by rw [if_neg g8]))
set_option maxHeartbeats 4000000 in
set_option maxRecDepth 100000 in
theorem tX5_actT (l : Launch) (hlt : l.stackTraces = false) (G : gX) (u : gU) (hF : gFull u) (a0 : Nat) (p1 : Int32) (p2 : Int32) (p3 : Int32) (p4 : Int32) (m : gM) (o : gM × Nat × Int32) (h : fX5_act a0 p1 p2 p3 p4 m = some o) (hz : o.2.1 ≠ 0) (h0 : gIn u a0 4 0) : gMetT l G u yX5_act (.code yX5_act cX5_act 6 (some .int)) rmX5_actT [.ref a0, .int p1, .int p2, .int p3, .int p4] m o.1 (gEn o.2.1) := by
  refine gMetT_of hlt (own := RX5) (k := 1) (by decide) rfl ⟨rfl, rfl⟩ (Nat.le_of_ble_eq_true rfl) [some (.ref a0), some (.int p1), some (.int p2), some (.int p3), some (.int p4), none] rfl (fun Y hG hu hnL hLn hRm he => ?_)
  subst hG hu hLn
  unfold fX5_act at h
  refine r_aload_n (pc := 0) dX5_act_0 rfl rfl ?_
  refine fX5_19 (pc := 1) hF dX5_act_1 h0 (fun b27 => ?_)
  refine r_iload_n (pc := 4) dX5_act_4 rfl rfl ?_
  refine r_iload_n (pc := 5) dX5_act_5 rfl rfl ?_
  refine r_iload_n (pc := 6) dX5_act_6 rfl rfl ?_
  refine r_iload (pc := 7) dX5_act_7 rfl ?_
  obtain ⟨m28, x29, q30, h⟩ := gCl_some h
  refine r_callVN (kd := 0) (pc := 9) [.int _, .int _, .int _, .int _] (tX0_refusalOf _ _ _ hF _ _ _ _ _ _ _ q30 b27) ⟨rfl, rfl⟩ cd_X0_refusalOf wX5_210 nm_X0_refusalOf rfl (by rw [hRm]; decide) rfl (Nat.le_of_ble_eq_true rfl) rfl (by decide) b27 dX5_act_9 ?_
  obtain ⟨b31, h⟩ := gOkE_some h
  refine r_astore (pc := 12) dX5_act_12 (by rw [hnL]; decide) rfl ?_
  refine r_aload (pc := 14) dX5_act_14 rfl ?_
  refine sX5_214 (pc := 16) dX5_act_16 ?_
  refine r_jn1 h (fun x32 => AW Y cX5_act RX5 27 [some (.ref a0), some (.int p1), some (.int p2), some (.int p3), some (.int p4), some (.ref x29)] [.int x32] m28) (fun x32 h => ?_) (fun hJ33 => ?_)
  · rcases gDem_thr h with ⟨g35, eg35⟩ | ⟨g35, h⟩
    · subst eg35
      exact r_callST (pc := 27) [.int _] (tX5_demandPlaceT _ hlt _ _ _ _ g35) ⟨rfl, rfl⟩ cd_X5_demandPlace wX5_88 nm_X5_demandPlace rfl (by rw [hRm]; decide) rfl (Nat.le_of_ble_eq_true rfl) dX5_act_27 he
    refine r_callS (pc := 27) [.int _] (tX5_demandPlace _ _ _ _ _ g35) ⟨rfl, rfl⟩ cd_X5_demandPlace wX5_88 nm_X5_demandPlace rfl (by rw [hRm]; decide) rfl (Nat.le_of_ble_eq_true rfl) dX5_act_27 ?_
    refine r_aload (pc := 30) dX5_act_30 rfl ?_
    refine sX5_220 (pc := 32) dX5_act_32 ?_
    refine r_jn1 h (fun x36 => AW Y cX5_act RX5 43 [some (.ref a0), some (.int p1), some (.int p2), some (.int p3), some (.int p4), some (.ref x29)] [.int x36] m28) (fun x36 h => ?_) (fun hJ37 => ?_)
    · rcases gDem_thr h with ⟨g39, eg39⟩ | ⟨g39, h⟩
      · subst eg39
        exact r_callST (pc := 43) [.int _] (tX5_demandArgumentT _ hlt _ _ _ _ g39) ⟨rfl, rfl⟩ cd_X5_demandArgument wX5_45 nm_X5_demandArgument rfl (by rw [hRm]; decide) rfl (Nat.le_of_ble_eq_true rfl) dX5_act_43 he
      refine r_callS (pc := 43) [.int _] (tX5_demandArgument _ _ _ _ _ g39) ⟨rfl, rfl⟩ cd_X5_demandArgument wX5_45 nm_X5_demandArgument rfl (by rw [hRm]; decide) rfl (Nat.le_of_ble_eq_true rfl) dX5_act_43 ?_
      refine r_aload (pc := 46) dX5_act_46 rfl ?_
      refine sX5_223 (pc := 48) dX5_act_48 ?_
      refine r_jn1 h (fun x40 => AW Y cX5_act RX5 59 [some (.ref a0), some (.int p1), some (.int p2), some (.int p3), some (.int p4), none] [.int x40] m28) (fun x40 h => ?_) (fun hJ41 => ?_)
      · rcases gDem_thr h with ⟨g43, eg43⟩ | ⟨g43, h⟩
        · subst eg43
          exact r_callST (pc := 59) [.int _] (tX5_demandStateT _ hlt _ _ _ _ g43) ⟨rfl, rfl⟩ cd_X5_demandState wX5_53 nm_X5_demandState rfl (by rw [hRm]; decide) rfl (Nat.le_of_ble_eq_true rfl) dX5_act_59 he
        refine r_callS (pc := 59) [.int _] (tX5_demandState _ _ _ _ _ g43) ⟨rfl, rfl⟩ cd_X5_demandState wX5_53 nm_X5_demandState rfl (by rw [hRm]; decide) rfl (Nat.le_of_ble_eq_true rfl) dX5_act_59 ?_
        refine r_aload_n (pc := 62) dX5_act_62 rfl rfl ?_
        refine fX5_29 (pc := 63) hF dX5_act_63 h0 (fun b44 => ?_)
        refine r_aload_n (pc := 66) dX5_act_66 rfl rfl ?_
        refine fX5_19 (pc := 67) hF dX5_act_67 h0 (fun b45 => ?_)
        obtain ⟨m46, q48, h⟩ := gCv_some h
        refine r_callVN (kd := 2) (pc := 70) [.ref _] (tX2_keep _ _ _ hF _ _ _ _ q48 b44 b45) ⟨rfl, rfl⟩ cd_X2_keep wX5_226 nm_X2_keep rfl (by rw [hRm]; decide) rfl (Nat.le_of_ble_eq_true rfl) rfl (by decide) b44 dX5_act_70 ?_
        refine r_aload_n (pc := 73) dX5_act_73 rfl rfl ?_
        refine fX5_19 (pc := 74) hF dX5_act_74 h0 (fun b49 => ?_)
        refine r_iload_n (pc := 77) dX5_act_77 rfl rfl ?_
        refine r_iload_n (pc := 78) dX5_act_78 rfl rfl ?_
        refine r_iload_n (pc := 79) dX5_act_79 rfl rfl ?_
        refine r_iload (pc := 80) dX5_act_80 rfl ?_
        obtain ⟨m50, x51, q52, h⟩ := gCl_some h
        refine r_callVN (kd := 0) (pc := 82) [.int _, .int _, .int _, .int _] (tX0_perform _ _ _ hF _ _ _ _ _ _ _ q52 b49) ⟨rfl, rfl⟩ cd_X0_perform wX5_229 nm_X0_perform rfl (by rw [hRm]; decide) rfl (Nat.le_of_ble_eq_true rfl) rfl (by decide) b49 dX5_act_82 ?_
        cases h
        exact absurd rfl hz
      · refine r_acmpC_eq (pc := 51) (tgt := 58) dX5_act_51 (by decide) b31 (gEnum 3 (by decide)) (fun g42 => ?_) (fun g42 => ?_)
        · refine r_iconst (pc := 58) (v := 0) dX5_act_58 (by decide) ?_
          exact r_mask [true, true, true, true, true, false] rfl (hJ41 _ (by rw [if_pos g42]))
        · refine r_iconst (pc := 54) (v := 1) dX5_act_54 (by decide) ?_
          refine r_goto (pc := 55) (tgt := 59) dX5_act_55 (by decide) ?_
          exact r_mask [true, true, true, true, true, false] rfl (hJ41 _ (by rw [if_neg g42]))
    · refine r_acmpC_eq (pc := 35) (tgt := 42) dX5_act_35 (by decide) b31 (gEnum 2 (by decide)) (fun g38 => ?_) (fun g38 => ?_)
      · refine r_iconst (pc := 42) (v := 0) dX5_act_42 (by decide) ?_
        exact r_mask [true, true, true, true, true, true] rfl (hJ37 _ (by rw [if_pos g38]))
      · refine r_iconst (pc := 38) (v := 1) dX5_act_38 (by decide) ?_
        refine r_goto (pc := 39) (tgt := 43) dX5_act_39 (by decide) ?_
        exact r_mask [true, true, true, true, true, true] rfl (hJ37 _ (by rw [if_neg g38]))
  · refine r_acmpC_eq (pc := 19) (tgt := 26) dX5_act_19 (by decide) b31 (gEnum 1 (by decide)) (fun g34 => ?_) (fun g34 => ?_)
    · refine r_iconst (pc := 26) (v := 0) dX5_act_26 (by decide) ?_
      exact r_mask [true, true, true, true, true, true] rfl (hJ33 _ (by rw [if_pos g34]))
    · refine r_iconst (pc := 22) (v := 1) dX5_act_22 (by decide) ?_
      refine r_goto (pc := 23) (tgt := 27) dX5_act_23 (by decide) ?_
      exact r_mask [true, true, true, true, true, true] rfl (hJ33 _ (by rw [if_neg g34]))
set_option maxHeartbeats 4000000 in
set_option maxRecDepth 100000 in
theorem tX5_customer (l : Launch) (G : gX) (u : gU) (hF : gFull u) (a0 : Nat) (p1 : Int32) (p2 : Int32) (m : gM) (o : gM × Nat × Int32) (h : fX5_customer a0 p1 p2 m = some o) (hz : o.2.1 = 0) (h0 : gIn u a0 4 0) : gMet l G u yX5_customer (.code yX5_customer cX5_customer 3 (some .int)) rmX5_customer [.ref a0, .int p1, .int p2] m o.1 (some (.int o.2.2)) := by
  refine gMet_of (own := RX5) (k := 0) (by decide) rfl ⟨rfl, rfl⟩ (Nat.le_of_ble_eq_true rfl) [some (.ref a0), some (.int p1), some (.int p2)] rfl (fun Y hG hu hnL hLn hRm he => ?_)
  subst hG hu hLn
  unfold fX5_customer at h
  refine r_aload_n (pc := 0) dX5_customer_0 rfl rfl ?_
  refine r_iconst (pc := 1) (v := 0) dX5_customer_1 (by decide) ?_
  refine r_iload_n (pc := 2) dX5_customer_2 rfl rfl ?_
  refine r_iload_n (pc := 3) dX5_customer_3 rfl rfl ?_
  refine r_iconst (pc := 4) (v := 0) dX5_customer_4 (by decide) ?_
  obtain ⟨⟨m1, e4, x2⟩, q3, zq3, h⟩ := gClX_ret h hz
  refine r_callV (kd := 4) (pc := 5) [.int _, .int _, .int _, .int _] (tX5_act _ _ _ hF _ _ _ _ _ _ _ q3 zq3 h0) ⟨rfl, rfl⟩ cd_X5_act wX5_146 nm_X5_act rfl (by rw [hRm]; decide) rfl (Nat.le_of_ble_eq_true rfl) rfl (by decide) h0 dX5_customer_5 ?_
  exact r_iretX dX5_customer_8 h he
set_option maxHeartbeats 4000000 in
set_option maxRecDepth 100000 in
theorem tX5_customerT (l : Launch) (hlt : l.stackTraces = false) (G : gX) (u : gU) (hF : gFull u) (a0 : Nat) (p1 : Int32) (p2 : Int32) (m : gM) (o : gM × Nat × Int32) (h : fX5_customer a0 p1 p2 m = some o) (hz : o.2.1 ≠ 0) (h0 : gIn u a0 4 0) : gMetT l G u yX5_customer (.code yX5_customer cX5_customer 3 (some .int)) rmX5_customerT [.ref a0, .int p1, .int p2] m o.1 (gEn o.2.1) := by
  refine gMetT_of hlt (own := RX5) (k := 0) (by decide) rfl ⟨rfl, rfl⟩ (Nat.le_of_ble_eq_true rfl) [some (.ref a0), some (.int p1), some (.int p2)] rfl (fun Y hG hu hnL hLn hRm he => ?_)
  subst hG hu hLn
  unfold fX5_customer at h
  refine r_aload_n (pc := 0) dX5_customer_0 rfl rfl ?_
  refine r_iconst (pc := 1) (v := 0) dX5_customer_1 (by decide) ?_
  refine r_iload_n (pc := 2) dX5_customer_2 rfl rfl ?_
  refine r_iload_n (pc := 3) dX5_customer_3 rfl rfl ?_
  refine r_iconst (pc := 4) (v := 0) dX5_customer_4 (by decide) ?_
  obtain ⟨⟨m5, e8, x6⟩, q7, ⟨zq7, eq7⟩ | ⟨zq7, h⟩⟩ := gClX_thr h
  · subst eq7
    exact r_callVT (kd := 4) (pc := 5) [.int _, .int _, .int _, .int _] (tX5_actT _ hlt _ _ hF _ _ _ _ _ _ _ q7 zq7 h0) ⟨rfl, rfl⟩ cd_X5_act wX5_146 nm_X5_act rfl (by rw [hRm]; decide) rfl (Nat.le_of_ble_eq_true rfl) rfl (by decide) h0 dX5_customer_5 he
  refine r_callV (kd := 4) (pc := 5) [.int _, .int _, .int _, .int _] (tX5_act _ _ _ hF _ _ _ _ _ _ _ q7 zq7 h0) ⟨rfl, rfl⟩ cd_X5_act wX5_146 nm_X5_act rfl (by rw [hRm]; decide) rfl (Nat.le_of_ble_eq_true rfl) rfl (by decide) h0 dX5_customer_5 ?_
  cases h
  exact absurd rfl hz
set_option maxHeartbeats 4000000 in
set_option maxRecDepth 100000 in
theorem tX5_change (l : Launch) (G : gX) (u : gU) (hF : gFull u) (a0 : Nat) (p1 : Int32) (p2 : Int32) (p3 : Int32) (m : gM) (o : gM × Nat × Int32) (h : fX5_change a0 p1 p2 p3 m = some o) (hz : o.2.1 = 0) (h0 : gIn u a0 4 0) : gMet l G u yX5_change (.code yX5_change cX5_change 4 (some .int)) rmX5_change [.ref a0, .int p1, .int p2, .int p3] m o.1 (some (.int o.2.2)) := by
  refine gMet_of (own := RX5) (k := 0) (by decide) rfl ⟨rfl, rfl⟩ (Nat.le_of_ble_eq_true rfl) [some (.ref a0), some (.int p1), some (.int p2), some (.int p3)] rfl (fun Y hG hu hnL hLn hRm he => ?_)
  subst hG hu hLn
  unfold fX5_change at h
  refine r_aload_n (pc := 0) dX5_change_0 rfl rfl ?_
  refine r_iconst (pc := 1) (v := 1) dX5_change_1 (by decide) ?_
  refine r_iload_n (pc := 2) dX5_change_2 rfl rfl ?_
  refine r_iload_n (pc := 3) dX5_change_3 rfl rfl ?_
  refine r_iload_n (pc := 4) dX5_change_4 rfl rfl ?_
  obtain ⟨⟨m1, e4, x2⟩, q3, zq3, h⟩ := gClX_ret h hz
  refine r_callV (kd := 4) (pc := 5) [.int _, .int _, .int _, .int _] (tX5_act _ _ _ hF _ _ _ _ _ _ _ q3 zq3 h0) ⟨rfl, rfl⟩ cd_X5_act wX5_146 nm_X5_act rfl (by rw [hRm]; decide) rfl (Nat.le_of_ble_eq_true rfl) rfl (by decide) h0 dX5_change_5 ?_
  exact r_iretX dX5_change_8 h he
set_option maxHeartbeats 4000000 in
set_option maxRecDepth 100000 in
theorem tX5_changeT (l : Launch) (hlt : l.stackTraces = false) (G : gX) (u : gU) (hF : gFull u) (a0 : Nat) (p1 : Int32) (p2 : Int32) (p3 : Int32) (m : gM) (o : gM × Nat × Int32) (h : fX5_change a0 p1 p2 p3 m = some o) (hz : o.2.1 ≠ 0) (h0 : gIn u a0 4 0) : gMetT l G u yX5_change (.code yX5_change cX5_change 4 (some .int)) rmX5_changeT [.ref a0, .int p1, .int p2, .int p3] m o.1 (gEn o.2.1) := by
  refine gMetT_of hlt (own := RX5) (k := 0) (by decide) rfl ⟨rfl, rfl⟩ (Nat.le_of_ble_eq_true rfl) [some (.ref a0), some (.int p1), some (.int p2), some (.int p3)] rfl (fun Y hG hu hnL hLn hRm he => ?_)
  subst hG hu hLn
  unfold fX5_change at h
  refine r_aload_n (pc := 0) dX5_change_0 rfl rfl ?_
  refine r_iconst (pc := 1) (v := 1) dX5_change_1 (by decide) ?_
  refine r_iload_n (pc := 2) dX5_change_2 rfl rfl ?_
  refine r_iload_n (pc := 3) dX5_change_3 rfl rfl ?_
  refine r_iload_n (pc := 4) dX5_change_4 rfl rfl ?_
  obtain ⟨⟨m5, e8, x6⟩, q7, ⟨zq7, eq7⟩ | ⟨zq7, h⟩⟩ := gClX_thr h
  · subst eq7
    exact r_callVT (kd := 4) (pc := 5) [.int _, .int _, .int _, .int _] (tX5_actT _ hlt _ _ hF _ _ _ _ _ _ _ q7 zq7 h0) ⟨rfl, rfl⟩ cd_X5_act wX5_146 nm_X5_act rfl (by rw [hRm]; decide) rfl (Nat.le_of_ble_eq_true rfl) rfl (by decide) h0 dX5_change_5 he
  refine r_callV (kd := 4) (pc := 5) [.int _, .int _, .int _, .int _] (tX5_act _ _ _ hF _ _ _ _ _ _ _ q7 zq7 h0) ⟨rfl, rfl⟩ cd_X5_act wX5_146 nm_X5_act rfl (by rw [hRm]; decide) rfl (Nat.le_of_ble_eq_true rfl) rfl (by decide) h0 dX5_change_5 ?_
  cases h
  exact absurd rfl hz
set_option maxHeartbeats 4000000 in
set_option maxRecDepth 100000 in
theorem tX5_holiday (l : Launch) (G : gX) (u : gU) (hF : gFull u) (a0 : Nat) (p1 : Int32) (p2 : Int32) (p3 : Int32) (m : gM) (o : gM × Nat × Int32) (h : fX5_holiday a0 p1 p2 p3 m = some o) (hz : o.2.1 = 0) (h0 : gIn u a0 4 0) : gMet l G u yX5_holiday (.code yX5_holiday cX5_holiday 4 (some .int)) rmX5_holiday [.ref a0, .int p1, .int p2, .int p3] m o.1 (some (.int o.2.2)) := by
  refine gMet_of (own := RX5) (k := 0) (by decide) rfl ⟨rfl, rfl⟩ (Nat.le_of_ble_eq_true rfl) [some (.ref a0), some (.int p1), some (.int p2), some (.int p3)] rfl (fun Y hG hu hnL hLn hRm he => ?_)
  subst hG hu hLn
  unfold fX5_holiday at h
  refine r_aload_n (pc := 0) dX5_holiday_0 rfl rfl ?_
  refine r_iconst (pc := 1) (v := 2) dX5_holiday_1 (by decide) ?_
  refine r_iload_n (pc := 2) dX5_holiday_2 rfl rfl ?_
  refine r_iload_n (pc := 3) dX5_holiday_3 rfl rfl ?_
  refine r_iload_n (pc := 4) dX5_holiday_4 rfl rfl ?_
  obtain ⟨⟨m1, e4, x2⟩, q3, zq3, h⟩ := gClX_ret h hz
  refine r_callV (kd := 4) (pc := 5) [.int _, .int _, .int _, .int _] (tX5_act _ _ _ hF _ _ _ _ _ _ _ q3 zq3 h0) ⟨rfl, rfl⟩ cd_X5_act wX5_146 nm_X5_act rfl (by rw [hRm]; decide) rfl (Nat.le_of_ble_eq_true rfl) rfl (by decide) h0 dX5_holiday_5 ?_
  exact r_iretX dX5_holiday_8 h he
set_option maxHeartbeats 4000000 in
set_option maxRecDepth 100000 in
theorem tX5_holidayT (l : Launch) (hlt : l.stackTraces = false) (G : gX) (u : gU) (hF : gFull u) (a0 : Nat) (p1 : Int32) (p2 : Int32) (p3 : Int32) (m : gM) (o : gM × Nat × Int32) (h : fX5_holiday a0 p1 p2 p3 m = some o) (hz : o.2.1 ≠ 0) (h0 : gIn u a0 4 0) : gMetT l G u yX5_holiday (.code yX5_holiday cX5_holiday 4 (some .int)) rmX5_holidayT [.ref a0, .int p1, .int p2, .int p3] m o.1 (gEn o.2.1) := by
  refine gMetT_of hlt (own := RX5) (k := 0) (by decide) rfl ⟨rfl, rfl⟩ (Nat.le_of_ble_eq_true rfl) [some (.ref a0), some (.int p1), some (.int p2), some (.int p3)] rfl (fun Y hG hu hnL hLn hRm he => ?_)
  subst hG hu hLn
  unfold fX5_holiday at h
  refine r_aload_n (pc := 0) dX5_holiday_0 rfl rfl ?_
  refine r_iconst (pc := 1) (v := 2) dX5_holiday_1 (by decide) ?_
  refine r_iload_n (pc := 2) dX5_holiday_2 rfl rfl ?_
  refine r_iload_n (pc := 3) dX5_holiday_3 rfl rfl ?_
  refine r_iload_n (pc := 4) dX5_holiday_4 rfl rfl ?_
  obtain ⟨⟨m5, e8, x6⟩, q7, ⟨zq7, eq7⟩ | ⟨zq7, h⟩⟩ := gClX_thr h
  · subst eq7
    exact r_callVT (kd := 4) (pc := 5) [.int _, .int _, .int _, .int _] (tX5_actT _ hlt _ _ hF _ _ _ _ _ _ _ q7 zq7 h0) ⟨rfl, rfl⟩ cd_X5_act wX5_146 nm_X5_act rfl (by rw [hRm]; decide) rfl (Nat.le_of_ble_eq_true rfl) rfl (by decide) h0 dX5_holiday_5 he
  refine r_callV (kd := 4) (pc := 5) [.int _, .int _, .int _, .int _] (tX5_act _ _ _ hF _ _ _ _ _ _ _ q7 zq7 h0) ⟨rfl, rfl⟩ cd_X5_act wX5_146 nm_X5_act rfl (by rw [hRm]; decide) rfl (Nat.le_of_ble_eq_true rfl) rfl (by decide) h0 dX5_holiday_5 ?_
  cases h
  exact absurd rfl hz
set_option maxHeartbeats 4000000 in
set_option maxRecDepth 100000 in
theorem tX5_drop (l : Launch) (G : gX) (u : gU) (hF : gFull u) (a0 : Nat) (p1 : Int32) (p2 : Int32) (m : gM) (o : gM × Nat × Int32) (h : fX5_drop a0 p1 p2 m = some o) (hz : o.2.1 = 0) (h0 : gIn u a0 4 0) : gMet l G u yX5_drop (.code yX5_drop cX5_drop 3 (some .int)) rmX5_drop [.ref a0, .int p1, .int p2] m o.1 (some (.int o.2.2)) := by
  refine gMet_of (own := RX5) (k := 0) (by decide) rfl ⟨rfl, rfl⟩ (Nat.le_of_ble_eq_true rfl) [some (.ref a0), some (.int p1), some (.int p2)] rfl (fun Y hG hu hnL hLn hRm he => ?_)
  subst hG hu hLn
  unfold fX5_drop at h
  refine r_aload_n (pc := 0) dX5_drop_0 rfl rfl ?_
  refine r_iconst (pc := 1) (v := 3) dX5_drop_1 (by decide) ?_
  refine r_iload_n (pc := 2) dX5_drop_2 rfl rfl ?_
  refine r_iload_n (pc := 3) dX5_drop_3 rfl rfl ?_
  refine r_iconst (pc := 4) (v := 0) dX5_drop_4 (by decide) ?_
  obtain ⟨⟨m1, e4, x2⟩, q3, zq3, h⟩ := gClX_ret h hz
  refine r_callV (kd := 4) (pc := 5) [.int _, .int _, .int _, .int _] (tX5_act _ _ _ hF _ _ _ _ _ _ _ q3 zq3 h0) ⟨rfl, rfl⟩ cd_X5_act wX5_146 nm_X5_act rfl (by rw [hRm]; decide) rfl (Nat.le_of_ble_eq_true rfl) rfl (by decide) h0 dX5_drop_5 ?_
  exact r_iretX dX5_drop_8 h he
set_option maxHeartbeats 4000000 in
set_option maxRecDepth 100000 in
theorem tX5_dropT (l : Launch) (hlt : l.stackTraces = false) (G : gX) (u : gU) (hF : gFull u) (a0 : Nat) (p1 : Int32) (p2 : Int32) (m : gM) (o : gM × Nat × Int32) (h : fX5_drop a0 p1 p2 m = some o) (hz : o.2.1 ≠ 0) (h0 : gIn u a0 4 0) : gMetT l G u yX5_drop (.code yX5_drop cX5_drop 3 (some .int)) rmX5_dropT [.ref a0, .int p1, .int p2] m o.1 (gEn o.2.1) := by
  refine gMetT_of hlt (own := RX5) (k := 0) (by decide) rfl ⟨rfl, rfl⟩ (Nat.le_of_ble_eq_true rfl) [some (.ref a0), some (.int p1), some (.int p2)] rfl (fun Y hG hu hnL hLn hRm he => ?_)
  subst hG hu hLn
  unfold fX5_drop at h
  refine r_aload_n (pc := 0) dX5_drop_0 rfl rfl ?_
  refine r_iconst (pc := 1) (v := 3) dX5_drop_1 (by decide) ?_
  refine r_iload_n (pc := 2) dX5_drop_2 rfl rfl ?_
  refine r_iload_n (pc := 3) dX5_drop_3 rfl rfl ?_
  refine r_iconst (pc := 4) (v := 0) dX5_drop_4 (by decide) ?_
  obtain ⟨⟨m5, e8, x6⟩, q7, ⟨zq7, eq7⟩ | ⟨zq7, h⟩⟩ := gClX_thr h
  · subst eq7
    exact r_callVT (kd := 4) (pc := 5) [.int _, .int _, .int _, .int _] (tX5_actT _ hlt _ _ hF _ _ _ _ _ _ _ q7 zq7 h0) ⟨rfl, rfl⟩ cd_X5_act wX5_146 nm_X5_act rfl (by rw [hRm]; decide) rfl (Nat.le_of_ble_eq_true rfl) rfl (by decide) h0 dX5_drop_5 he
  refine r_callV (kd := 4) (pc := 5) [.int _, .int _, .int _, .int _] (tX5_act _ _ _ hF _ _ _ _ _ _ _ q7 zq7 h0) ⟨rfl, rfl⟩ cd_X5_act wX5_146 nm_X5_act rfl (by rw [hRm]; decide) rfl (Nat.le_of_ble_eq_true rfl) rfl (by decide) h0 dX5_drop_5 ?_
  cases h
  exact absurd rfl hz
set_option maxHeartbeats 4000000 in
set_option maxRecDepth 100000 in
theorem tX5_close (l : Launch) (G : gX) (u : gU) (hF : gFull u) (a0 : Nat) (p1 : Int32) (p2 : Int32) (p3 : Int32) (m : gM) (o : gM × Nat × Int32) (h : fX5_close a0 p1 p2 p3 m = some o) (hz : o.2.1 = 0) (h0 : gIn u a0 4 0) : gMet l G u yX5_close (.code yX5_close cX5_close 4 (some .int)) rmX5_close [.ref a0, .int p1, .int p2, .int p3] m o.1 (some (.int o.2.2)) := by
  refine gMet_of (own := RX5) (k := 0) (by decide) rfl ⟨rfl, rfl⟩ (Nat.le_of_ble_eq_true rfl) [some (.ref a0), some (.int p1), some (.int p2), some (.int p3)] rfl (fun Y hG hu hnL hLn hRm he => ?_)
  subst hG hu hLn
  unfold fX5_close at h
  refine r_aload_n (pc := 0) dX5_close_0 rfl rfl ?_
  refine r_iconst (pc := 1) (v := 4) dX5_close_1 (by decide) ?_
  refine r_iload_n (pc := 2) dX5_close_2 rfl rfl ?_
  refine r_iload_n (pc := 3) dX5_close_3 rfl rfl ?_
  refine r_iload_n (pc := 4) dX5_close_4 rfl rfl ?_
  refine r_jn1 h (fun x1 => AW Y cX5_close RX5 13 [none, none, none, none] [.int x1, .int p2, .int p1, .int 4, .ref a0] m) (fun x1 h => ?_) (fun hJ2 => ?_)
  · obtain ⟨⟨m4, e7, x5⟩, q6, zq6, h⟩ := gClX_ret h hz
    refine r_callV (kd := 4) (pc := 13) [.int _, .int _, .int _, .int _] (tX5_act _ _ _ hF _ _ _ _ _ _ _ q6 zq6 h0) ⟨rfl, rfl⟩ cd_X5_act wX5_146 nm_X5_act rfl (by rw [hRm]; decide) rfl (Nat.le_of_ble_eq_true rfl) rfl (by decide) h0 dX5_close_13 ?_
    exact r_iretX dX5_close_16 h he
  · refine r_ifC_eq (pc := 5) (tgt := 12) dX5_close_5 (by decide) (fun g3 => ?_) (fun g3 => ?_)
    · refine r_iconst (pc := 12) (v := 0) dX5_close_12 (by decide) ?_
      exact r_mask [false, false, false, false] rfl (hJ2 _ (by rw [if_pos g3]))
    · refine r_iconst (pc := 8) (v := 1) dX5_close_8 (by decide) ?_
      refine r_goto (pc := 9) (tgt := 13) dX5_close_9 (by decide) ?_
      exact r_mask [false, false, false, false] rfl (hJ2 _ (by rw [if_neg g3]))
set_option maxHeartbeats 4000000 in
set_option maxRecDepth 100000 in
theorem tX5_closeT (l : Launch) (hlt : l.stackTraces = false) (G : gX) (u : gU) (hF : gFull u) (a0 : Nat) (p1 : Int32) (p2 : Int32) (p3 : Int32) (m : gM) (o : gM × Nat × Int32) (h : fX5_close a0 p1 p2 p3 m = some o) (hz : o.2.1 ≠ 0) (h0 : gIn u a0 4 0) : gMetT l G u yX5_close (.code yX5_close cX5_close 4 (some .int)) rmX5_closeT [.ref a0, .int p1, .int p2, .int p3] m o.1 (gEn o.2.1) := by
  refine gMetT_of hlt (own := RX5) (k := 0) (by decide) rfl ⟨rfl, rfl⟩ (Nat.le_of_ble_eq_true rfl) [some (.ref a0), some (.int p1), some (.int p2), some (.int p3)] rfl (fun Y hG hu hnL hLn hRm he => ?_)
  subst hG hu hLn
  unfold fX5_close at h
  refine r_aload_n (pc := 0) dX5_close_0 rfl rfl ?_
  refine r_iconst (pc := 1) (v := 4) dX5_close_1 (by decide) ?_
  refine r_iload_n (pc := 2) dX5_close_2 rfl rfl ?_
  refine r_iload_n (pc := 3) dX5_close_3 rfl rfl ?_
  refine r_iload_n (pc := 4) dX5_close_4 rfl rfl ?_
  refine r_jn1 h (fun x8 => AW Y cX5_close RX5 13 [none, none, none, none] [.int x8, .int p2, .int p1, .int 4, .ref a0] m) (fun x8 h => ?_) (fun hJ9 => ?_)
  · obtain ⟨⟨m11, e14, x12⟩, q13, ⟨zq13, eq13⟩ | ⟨zq13, h⟩⟩ := gClX_thr h
    · subst eq13
      exact r_callVT (kd := 4) (pc := 13) [.int _, .int _, .int _, .int _] (tX5_actT _ hlt _ _ hF _ _ _ _ _ _ _ q13 zq13 h0) ⟨rfl, rfl⟩ cd_X5_act wX5_146 nm_X5_act rfl (by rw [hRm]; decide) rfl (Nat.le_of_ble_eq_true rfl) rfl (by decide) h0 dX5_close_13 he
    refine r_callV (kd := 4) (pc := 13) [.int _, .int _, .int _, .int _] (tX5_act _ _ _ hF _ _ _ _ _ _ _ q13 zq13 h0) ⟨rfl, rfl⟩ cd_X5_act wX5_146 nm_X5_act rfl (by rw [hRm]; decide) rfl (Nat.le_of_ble_eq_true rfl) rfl (by decide) h0 dX5_close_13 ?_
    cases h
    exact absurd rfl hz
  · refine r_ifC_eq (pc := 5) (tgt := 12) dX5_close_5 (by decide) (fun g10 => ?_) (fun g10 => ?_)
    · refine r_iconst (pc := 12) (v := 0) dX5_close_12 (by decide) ?_
      exact r_mask [false, false, false, false] rfl (hJ9 _ (by rw [if_pos g10]))
    · refine r_iconst (pc := 8) (v := 1) dX5_close_8 (by decide) ?_
      refine r_goto (pc := 9) (tgt := 13) dX5_close_9 (by decide) ?_
      exact r_mask [false, false, false, false] rfl (hJ9 _ (by rw [if_neg g10]))
set_option maxHeartbeats 4000000 in
set_option maxRecDepth 100000 in
theorem tX5_swap (l : Launch) (G : gX) (u : gU) (hF : gFull u) (a0 : Nat) (p1 : Int32) (p2 : Int32) (m : gM) (o : gM × Nat × Int32) (h : fX5_swap a0 p1 p2 m = some o) (hz : o.2.1 = 0) (h0 : gIn u a0 4 0) : gMet l G u yX5_swap (.code yX5_swap cX5_swap 3 (some .int)) rmX5_swap [.ref a0, .int p1, .int p2] m o.1 (some (.int o.2.2)) := by
  refine gMet_of (own := RX5) (k := 0) (by decide) rfl ⟨rfl, rfl⟩ (Nat.le_of_ble_eq_true rfl) [some (.ref a0), some (.int p1), some (.int p2)] rfl (fun Y hG hu hnL hLn hRm he => ?_)
  subst hG hu hLn
  unfold fX5_swap at h
  refine r_aload_n (pc := 0) dX5_swap_0 rfl rfl ?_
  refine r_iconst (pc := 1) (v := 5) dX5_swap_1 (by decide) ?_
  refine r_iload_n (pc := 2) dX5_swap_2 rfl rfl ?_
  refine r_iload_n (pc := 3) dX5_swap_3 rfl rfl ?_
  refine r_iconst (pc := 4) (v := 0) dX5_swap_4 (by decide) ?_
  obtain ⟨⟨m1, e4, x2⟩, q3, zq3, h⟩ := gClX_ret h hz
  refine r_callV (kd := 4) (pc := 5) [.int _, .int _, .int _, .int _] (tX5_act _ _ _ hF _ _ _ _ _ _ _ q3 zq3 h0) ⟨rfl, rfl⟩ cd_X5_act wX5_146 nm_X5_act rfl (by rw [hRm]; decide) rfl (Nat.le_of_ble_eq_true rfl) rfl (by decide) h0 dX5_swap_5 ?_
  exact r_iretX dX5_swap_8 h he
set_option maxHeartbeats 4000000 in
set_option maxRecDepth 100000 in
theorem tX5_swapT (l : Launch) (hlt : l.stackTraces = false) (G : gX) (u : gU) (hF : gFull u) (a0 : Nat) (p1 : Int32) (p2 : Int32) (m : gM) (o : gM × Nat × Int32) (h : fX5_swap a0 p1 p2 m = some o) (hz : o.2.1 ≠ 0) (h0 : gIn u a0 4 0) : gMetT l G u yX5_swap (.code yX5_swap cX5_swap 3 (some .int)) rmX5_swapT [.ref a0, .int p1, .int p2] m o.1 (gEn o.2.1) := by
  refine gMetT_of hlt (own := RX5) (k := 0) (by decide) rfl ⟨rfl, rfl⟩ (Nat.le_of_ble_eq_true rfl) [some (.ref a0), some (.int p1), some (.int p2)] rfl (fun Y hG hu hnL hLn hRm he => ?_)
  subst hG hu hLn
  unfold fX5_swap at h
  refine r_aload_n (pc := 0) dX5_swap_0 rfl rfl ?_
  refine r_iconst (pc := 1) (v := 5) dX5_swap_1 (by decide) ?_
  refine r_iload_n (pc := 2) dX5_swap_2 rfl rfl ?_
  refine r_iload_n (pc := 3) dX5_swap_3 rfl rfl ?_
  refine r_iconst (pc := 4) (v := 0) dX5_swap_4 (by decide) ?_
  obtain ⟨⟨m5, e8, x6⟩, q7, ⟨zq7, eq7⟩ | ⟨zq7, h⟩⟩ := gClX_thr h
  · subst eq7
    exact r_callVT (kd := 4) (pc := 5) [.int _, .int _, .int _, .int _] (tX5_actT _ hlt _ _ hF _ _ _ _ _ _ _ q7 zq7 h0) ⟨rfl, rfl⟩ cd_X5_act wX5_146 nm_X5_act rfl (by rw [hRm]; decide) rfl (Nat.le_of_ble_eq_true rfl) rfl (by decide) h0 dX5_swap_5 he
  refine r_callV (kd := 4) (pc := 5) [.int _, .int _, .int _, .int _] (tX5_act _ _ _ hF _ _ _ _ _ _ _ q7 zq7 h0) ⟨rfl, rfl⟩ cd_X5_act wX5_146 nm_X5_act rfl (by rw [hRm]; decide) rfl (Nat.le_of_ble_eq_true rfl) rfl (by decide) h0 dX5_swap_5 ?_
  cases h
  exact absurd rfl hz
set_option maxHeartbeats 4000000 in
set_option maxRecDepth 100000 in
theorem tX5_set (l : Launch) (G : gX) (u : gU) (hF : gFull u) (a0 : Nat) (p1 : Int32) (p2 : Int32) (m : gM) (o : gM × Nat × Int32) (h : fX5_set a0 p1 p2 m = some o) (hz : o.2.1 = 0) (h0 : gIn u a0 4 0) : gMet l G u yX5_set (.code yX5_set cX5_set 3 (some .int)) rmX5_set [.ref a0, .int p1, .int p2] m o.1 (some (.int o.2.2)) := by
  refine gMet_of (own := RX5) (k := 0) (by decide) rfl ⟨rfl, rfl⟩ (Nat.le_of_ble_eq_true rfl) [some (.ref a0), some (.int p1), some (.int p2)] rfl (fun Y hG hu hnL hLn hRm he => ?_)
  subst hG hu hLn
  unfold fX5_set at h
  refine r_aload_n (pc := 0) dX5_set_0 rfl rfl ?_
  refine r_bipush (pc := 1) (v := 6) dX5_set_1 (by decide) ?_
  refine r_iload_n (pc := 3) dX5_set_3 rfl rfl ?_
  refine r_iload_n (pc := 4) dX5_set_4 rfl rfl ?_
  refine r_iconst (pc := 5) (v := 0) dX5_set_5 (by decide) ?_
  obtain ⟨⟨m1, e4, x2⟩, q3, zq3, h⟩ := gClX_ret h hz
  refine r_callV (kd := 4) (pc := 6) [.int _, .int _, .int _, .int _] (tX5_act _ _ _ hF _ _ _ _ _ _ _ q3 zq3 h0) ⟨rfl, rfl⟩ cd_X5_act wX5_146 nm_X5_act rfl (by rw [hRm]; decide) rfl (Nat.le_of_ble_eq_true rfl) rfl (by decide) h0 dX5_set_6 ?_
  exact r_iretX dX5_set_9 h he
set_option maxHeartbeats 4000000 in
set_option maxRecDepth 100000 in
theorem tX5_setT (l : Launch) (hlt : l.stackTraces = false) (G : gX) (u : gU) (hF : gFull u) (a0 : Nat) (p1 : Int32) (p2 : Int32) (m : gM) (o : gM × Nat × Int32) (h : fX5_set a0 p1 p2 m = some o) (hz : o.2.1 ≠ 0) (h0 : gIn u a0 4 0) : gMetT l G u yX5_set (.code yX5_set cX5_set 3 (some .int)) rmX5_setT [.ref a0, .int p1, .int p2] m o.1 (gEn o.2.1) := by
  refine gMetT_of hlt (own := RX5) (k := 0) (by decide) rfl ⟨rfl, rfl⟩ (Nat.le_of_ble_eq_true rfl) [some (.ref a0), some (.int p1), some (.int p2)] rfl (fun Y hG hu hnL hLn hRm he => ?_)
  subst hG hu hLn
  unfold fX5_set at h
  refine r_aload_n (pc := 0) dX5_set_0 rfl rfl ?_
  refine r_bipush (pc := 1) (v := 6) dX5_set_1 (by decide) ?_
  refine r_iload_n (pc := 3) dX5_set_3 rfl rfl ?_
  refine r_iload_n (pc := 4) dX5_set_4 rfl rfl ?_
  refine r_iconst (pc := 5) (v := 0) dX5_set_5 (by decide) ?_
  obtain ⟨⟨m5, e8, x6⟩, q7, ⟨zq7, eq7⟩ | ⟨zq7, h⟩⟩ := gClX_thr h
  · subst eq7
    exact r_callVT (kd := 4) (pc := 6) [.int _, .int _, .int _, .int _] (tX5_actT _ hlt _ _ hF _ _ _ _ _ _ _ q7 zq7 h0) ⟨rfl, rfl⟩ cd_X5_act wX5_146 nm_X5_act rfl (by rw [hRm]; decide) rfl (Nat.le_of_ble_eq_true rfl) rfl (by decide) h0 dX5_set_6 he
  refine r_callV (kd := 4) (pc := 6) [.int _, .int _, .int _, .int _] (tX5_act _ _ _ hF _ _ _ _ _ _ _ q7 zq7 h0) ⟨rfl, rfl⟩ cd_X5_act wX5_146 nm_X5_act rfl (by rw [hRm]; decide) rfl (Nat.le_of_ble_eq_true rfl) rfl (by decide) h0 dX5_set_6 ?_
  cases h
  exact absurd rfl hz
set_option maxHeartbeats 4000000 in
set_option maxRecDepth 100000 in
theorem tX5_days (l : Launch) (G : gX) (u : gU) (hF : gFull u) (a0 : Nat) (p1 : Int32) (m : gM) (o : gM × Nat × Int32) (h : fX5_days a0 p1 m = some o) (hz : o.2.1 = 0) (h0 : gIn u a0 4 0) : gMet l G u yX5_days (.code yX5_days cX5_days 2 (some .int)) rmX5_days [.ref a0, .int p1] m o.1 (some (.int o.2.2)) := by
  refine gMet_of (own := RX5) (k := 0) (by decide) rfl ⟨rfl, rfl⟩ (Nat.le_of_ble_eq_true rfl) [some (.ref a0), some (.int p1)] rfl (fun Y hG hu hnL hLn hRm he => ?_)
  subst hG hu hLn
  unfold fX5_days at h
  refine r_aload_n (pc := 0) dX5_days_0 rfl rfl ?_
  refine r_bipush (pc := 1) (v := 7) dX5_days_1 (by decide) ?_
  refine r_iload_n (pc := 3) dX5_days_3 rfl rfl ?_
  refine r_iconst (pc := 4) (v := 0) dX5_days_4 (by decide) ?_
  refine r_iconst (pc := 5) (v := 0) dX5_days_5 (by decide) ?_
  obtain ⟨⟨m1, e4, x2⟩, q3, zq3, h⟩ := gClX_ret h hz
  refine r_callV (kd := 4) (pc := 6) [.int _, .int _, .int _, .int _] (tX5_act _ _ _ hF _ _ _ _ _ _ _ q3 zq3 h0) ⟨rfl, rfl⟩ cd_X5_act wX5_146 nm_X5_act rfl (by rw [hRm]; decide) rfl (Nat.le_of_ble_eq_true rfl) rfl (by decide) h0 dX5_days_6 ?_
  exact r_iretX dX5_days_9 h he
set_option maxHeartbeats 4000000 in
set_option maxRecDepth 100000 in
theorem tX5_daysT (l : Launch) (hlt : l.stackTraces = false) (G : gX) (u : gU) (hF : gFull u) (a0 : Nat) (p1 : Int32) (m : gM) (o : gM × Nat × Int32) (h : fX5_days a0 p1 m = some o) (hz : o.2.1 ≠ 0) (h0 : gIn u a0 4 0) : gMetT l G u yX5_days (.code yX5_days cX5_days 2 (some .int)) rmX5_daysT [.ref a0, .int p1] m o.1 (gEn o.2.1) := by
  refine gMetT_of hlt (own := RX5) (k := 0) (by decide) rfl ⟨rfl, rfl⟩ (Nat.le_of_ble_eq_true rfl) [some (.ref a0), some (.int p1)] rfl (fun Y hG hu hnL hLn hRm he => ?_)
  subst hG hu hLn
  unfold fX5_days at h
  refine r_aload_n (pc := 0) dX5_days_0 rfl rfl ?_
  refine r_bipush (pc := 1) (v := 7) dX5_days_1 (by decide) ?_
  refine r_iload_n (pc := 3) dX5_days_3 rfl rfl ?_
  refine r_iconst (pc := 4) (v := 0) dX5_days_4 (by decide) ?_
  refine r_iconst (pc := 5) (v := 0) dX5_days_5 (by decide) ?_
  obtain ⟨⟨m5, e8, x6⟩, q7, ⟨zq7, eq7⟩ | ⟨zq7, h⟩⟩ := gClX_thr h
  · subst eq7
    exact r_callVT (kd := 4) (pc := 6) [.int _, .int _, .int _, .int _] (tX5_actT _ hlt _ _ hF _ _ _ _ _ _ _ q7 zq7 h0) ⟨rfl, rfl⟩ cd_X5_act wX5_146 nm_X5_act rfl (by rw [hRm]; decide) rfl (Nat.le_of_ble_eq_true rfl) rfl (by decide) h0 dX5_days_6 he
  refine r_callV (kd := 4) (pc := 6) [.int _, .int _, .int _, .int _] (tX5_act _ _ _ hF _ _ _ _ _ _ _ q7 zq7 h0) ⟨rfl, rfl⟩ cd_X5_act wX5_146 nm_X5_act rfl (by rw [hRm]; decide) rfl (Nat.le_of_ble_eq_true rfl) rfl (by decide) h0 dX5_days_6 ?_
  cases h
  exact absurd rfl hz
set_option maxHeartbeats 4000000 in
set_option maxRecDepth 100000 in
theorem tX5_undo (l : Launch) (G : gX) (u : gU) (hF : gFull u) (a0 : Nat) (m : gM) (o : gM × Nat × Int32) (h : fX5_undo a0 m = some o) (hz : o.2.1 = 0) (h0 : gIn u a0 4 0) : gMet l G u yX5_undo (.code yX5_undo cX5_undo 1 (some .int)) rmX5_undo [.ref a0] m o.1 (some (.int o.2.2)) := by
  refine gMet_of (own := RX5) (k := 0) (by decide) rfl ⟨rfl, rfl⟩ (Nat.le_of_ble_eq_true rfl) [some (.ref a0)] rfl (fun Y hG hu hnL hLn hRm he => ?_)
  subst hG hu hLn
  unfold fX5_undo at h
  refine r_aload_n (pc := 0) dX5_undo_0 rfl rfl ?_
  refine fX5_29 (pc := 1) hF dX5_undo_1 h0 (fun b1 => ?_)
  refine fX5_150 (pc := 4) dX5_undo_4 b1 h (fun x2 h => ?_)
  refine r_jn1 h (fun x3 => AW Y cX5_undo RX5 15 [some (.ref a0)] [.int x3] m) (fun x3 h => ?_) (fun hJ4 => ?_)
  · obtain ⟨g6, h⟩ := gDem_ret (by decide) h hz
    refine r_callS (pc := 15) [.int _] (tX5_demandState _ _ _ _ _ g6) ⟨rfl, rfl⟩ cd_X5_demandState wX5_53 nm_X5_demandState rfl (by rw [hRm]; decide) rfl (Nat.le_of_ble_eq_true rfl) dX5_undo_15 ?_
    refine r_aload_n (pc := 18) dX5_undo_18 rfl rfl ?_
    refine fX5_29 (pc := 19) hF dX5_undo_19 h0 (fun b7 => ?_)
    refine r_aload_n (pc := 22) dX5_undo_22 rfl rfl ?_
    refine fX5_19 (pc := 23) hF dX5_undo_23 h0 (fun b8 => ?_)
    obtain ⟨m9, x10, q11, h⟩ := gCl_some h
    refine r_callVN (kd := 2) (pc := 26) [.ref _] (tX2_takeBack _ _ _ hF _ _ _ _ q11 b7 b8) ⟨rfl, rfl⟩ cd_X2_takeBack wX5_153 nm_X2_takeBack rfl (by rw [hRm]; decide) rfl (Nat.le_of_ble_eq_true rfl) rfl (by decide) b7 dX5_undo_26 ?_
    exact r_iretX dX5_undo_29 h he
  · refine r_ifC_le (pc := 7) (tgt := 14) dX5_undo_7 (by decide) (fun g5 => ?_) (fun g5 => ?_)
    · refine r_iconst (pc := 14) (v := 0) dX5_undo_14 (by decide) ?_
      exact r_mask [true] rfl (hJ4 _ (by rw [if_pos g5]))
    · refine r_iconst (pc := 10) (v := 1) dX5_undo_10 (by decide) ?_
      refine r_goto (pc := 11) (tgt := 15) dX5_undo_11 (by decide) ?_
      exact r_mask [true] rfl (hJ4 _ (by rw [if_neg g5]))
set_option maxHeartbeats 4000000 in
set_option maxRecDepth 100000 in
theorem tX5_undoT (l : Launch) (hlt : l.stackTraces = false) (G : gX) (u : gU) (hF : gFull u) (a0 : Nat) (m : gM) (o : gM × Nat × Int32) (h : fX5_undo a0 m = some o) (hz : o.2.1 ≠ 0) (h0 : gIn u a0 4 0) : gMetT l G u yX5_undo (.code yX5_undo cX5_undo 1 (some .int)) rmX5_undoT [.ref a0] m o.1 (gEn o.2.1) := by
  refine gMetT_of hlt (own := RX5) (k := 0) (by decide) rfl ⟨rfl, rfl⟩ (Nat.le_of_ble_eq_true rfl) [some (.ref a0)] rfl (fun Y hG hu hnL hLn hRm he => ?_)
  subst hG hu hLn
  unfold fX5_undo at h
  refine r_aload_n (pc := 0) dX5_undo_0 rfl rfl ?_
  refine fX5_29 (pc := 1) hF dX5_undo_1 h0 (fun b12 => ?_)
  refine fX5_150 (pc := 4) dX5_undo_4 b12 h (fun x13 h => ?_)
  refine r_jn1 h (fun x14 => AW Y cX5_undo RX5 15 [some (.ref a0)] [.int x14] m) (fun x14 h => ?_) (fun hJ15 => ?_)
  · rcases gDem_thr h with ⟨g17, eg17⟩ | ⟨g17, h⟩
    · subst eg17
      exact r_callST (pc := 15) [.int _] (tX5_demandStateT _ hlt _ _ _ _ g17) ⟨rfl, rfl⟩ cd_X5_demandState wX5_53 nm_X5_demandState rfl (by rw [hRm]; decide) rfl (Nat.le_of_ble_eq_true rfl) dX5_undo_15 he
    refine r_callS (pc := 15) [.int _] (tX5_demandState _ _ _ _ _ g17) ⟨rfl, rfl⟩ cd_X5_demandState wX5_53 nm_X5_demandState rfl (by rw [hRm]; decide) rfl (Nat.le_of_ble_eq_true rfl) dX5_undo_15 ?_
    refine r_aload_n (pc := 18) dX5_undo_18 rfl rfl ?_
    refine fX5_29 (pc := 19) hF dX5_undo_19 h0 (fun b18 => ?_)
    refine r_aload_n (pc := 22) dX5_undo_22 rfl rfl ?_
    refine fX5_19 (pc := 23) hF dX5_undo_23 h0 (fun b19 => ?_)
    obtain ⟨m20, x21, q22, h⟩ := gCl_some h
    refine r_callVN (kd := 2) (pc := 26) [.ref _] (tX2_takeBack _ _ _ hF _ _ _ _ q22 b18 b19) ⟨rfl, rfl⟩ cd_X2_takeBack wX5_153 nm_X2_takeBack rfl (by rw [hRm]; decide) rfl (Nat.le_of_ble_eq_true rfl) rfl (by decide) b18 dX5_undo_26 ?_
    cases h
    exact absurd rfl hz
  · refine r_ifC_le (pc := 7) (tgt := 14) dX5_undo_7 (by decide) (fun g16 => ?_) (fun g16 => ?_)
    · refine r_iconst (pc := 14) (v := 0) dX5_undo_14 (by decide) ?_
      exact r_mask [true] rfl (hJ15 _ (by rw [if_pos g16]))
    · refine r_iconst (pc := 10) (v := 1) dX5_undo_10 (by decide) ?_
      refine r_goto (pc := 11) (tgt := 15) dX5_undo_11 (by decide) ?_
      exact r_mask [true] rfl (hJ15 _ (by rw [if_neg g16]))
set_option maxHeartbeats 4000000 in
set_option maxRecDepth 100000 in
theorem tX5_why (l : Launch) (G : gX) (u : gU) (hF : gFull u) (a0 : Nat) (p1 : Int32) (m : gM) (o : gM × Nat × Int32) (h : fX5_why a0 p1 m = some o) (hz : o.2.1 = 0) (h0 : gIn u a0 4 0) : gMet l G u yX5_why (.code yX5_why cX5_why 2 (some .int)) rmX5_why [.ref a0, .int p1] m o.1 (some (.int o.2.2)) := by
  refine gMet_of (own := RX5) (k := 0) (by decide) rfl ⟨rfl, rfl⟩ (Nat.le_of_ble_eq_true rfl) [some (.ref a0), some (.int p1)] rfl (fun Y hG hu hnL hLn hRm he => ?_)
  subst hG hu hLn
  unfold fX5_why at h
  refine r_aload_n (pc := 0) dX5_why_0 rfl rfl ?_
  refine fX5_19 (pc := 1) hF dX5_why_1 h0 (fun b1 => ?_)
  refine r_iload_n (pc := 4) dX5_why_4 rfl rfl ?_
  obtain ⟨m2, x3, q4, h⟩ := gCl_some h
  refine r_callVN (kd := 0) (pc := 5) [.int _] (tX0_hasCustomer _ _ _ hF _ _ _ _ q4 b1) ⟨rfl, rfl⟩ cd_X0_hasCustomer wX5_84 nm_X0_hasCustomer rfl (by rw [hRm]; decide) rfl (Nat.le_of_ble_eq_true rfl) rfl (by decide) b1 dX5_why_5 ?_
  obtain ⟨g5, h⟩ := gDem_ret (by decide) h hz
  refine r_callS (pc := 8) [.int _] (tX5_demandPlace _ _ _ _ _ g5) ⟨rfl, rfl⟩ cd_X5_demandPlace wX5_88 nm_X5_demandPlace rfl (by rw [hRm]; decide) rfl (Nat.le_of_ble_eq_true rfl) dX5_why_8 ?_
  refine r_aload_n (pc := 11) dX5_why_11 rfl rfl ?_
  refine fX5_19 (pc := 12) hF dX5_why_12 h0 (fun b6 => ?_)
  refine r_iload_n (pc := 15) dX5_why_15 rfl rfl ?_
  obtain ⟨m7, x8, q9, h⟩ := gCl_some h
  refine r_callVN (kd := 0) (pc := 16) [.int _] (tX0_reasonFor _ _ _ hF _ _ _ _ q9 b6) ⟨rfl, rfl⟩ cd_X0_reasonFor wX5_157 nm_X0_reasonFor rfl (by rw [hRm]; decide) rfl (Nat.le_of_ble_eq_true rfl) rfl (by decide) b6 dX5_why_16 ?_
  exact r_iretX dX5_why_19 h he
set_option maxHeartbeats 4000000 in
set_option maxRecDepth 100000 in
theorem tX5_whyT (l : Launch) (hlt : l.stackTraces = false) (G : gX) (u : gU) (hF : gFull u) (a0 : Nat) (p1 : Int32) (m : gM) (o : gM × Nat × Int32) (h : fX5_why a0 p1 m = some o) (hz : o.2.1 ≠ 0) (h0 : gIn u a0 4 0) : gMetT l G u yX5_why (.code yX5_why cX5_why 2 (some .int)) rmX5_whyT [.ref a0, .int p1] m o.1 (gEn o.2.1) := by
  refine gMetT_of hlt (own := RX5) (k := 0) (by decide) rfl ⟨rfl, rfl⟩ (Nat.le_of_ble_eq_true rfl) [some (.ref a0), some (.int p1)] rfl (fun Y hG hu hnL hLn hRm he => ?_)
  subst hG hu hLn
  unfold fX5_why at h
  refine r_aload_n (pc := 0) dX5_why_0 rfl rfl ?_
  refine fX5_19 (pc := 1) hF dX5_why_1 h0 (fun b10 => ?_)
  refine r_iload_n (pc := 4) dX5_why_4 rfl rfl ?_
  obtain ⟨m11, x12, q13, h⟩ := gCl_some h
  refine r_callVN (kd := 0) (pc := 5) [.int _] (tX0_hasCustomer _ _ _ hF _ _ _ _ q13 b10) ⟨rfl, rfl⟩ cd_X0_hasCustomer wX5_84 nm_X0_hasCustomer rfl (by rw [hRm]; decide) rfl (Nat.le_of_ble_eq_true rfl) rfl (by decide) b10 dX5_why_5 ?_
  rcases gDem_thr h with ⟨g14, eg14⟩ | ⟨g14, h⟩
  · subst eg14
    exact r_callST (pc := 8) [.int _] (tX5_demandPlaceT _ hlt _ _ _ _ g14) ⟨rfl, rfl⟩ cd_X5_demandPlace wX5_88 nm_X5_demandPlace rfl (by rw [hRm]; decide) rfl (Nat.le_of_ble_eq_true rfl) dX5_why_8 he
  refine r_callS (pc := 8) [.int _] (tX5_demandPlace _ _ _ _ _ g14) ⟨rfl, rfl⟩ cd_X5_demandPlace wX5_88 nm_X5_demandPlace rfl (by rw [hRm]; decide) rfl (Nat.le_of_ble_eq_true rfl) dX5_why_8 ?_
  refine r_aload_n (pc := 11) dX5_why_11 rfl rfl ?_
  refine fX5_19 (pc := 12) hF dX5_why_12 h0 (fun b15 => ?_)
  refine r_iload_n (pc := 15) dX5_why_15 rfl rfl ?_
  obtain ⟨m16, x17, q18, h⟩ := gCl_some h
  refine r_callVN (kd := 0) (pc := 16) [.int _] (tX0_reasonFor _ _ _ hF _ _ _ _ q18 b15) ⟨rfl, rfl⟩ cd_X0_reasonFor wX5_157 nm_X0_reasonFor rfl (by rw [hRm]; decide) rfl (Nat.le_of_ble_eq_true rfl) rfl (by decide) b15 dX5_why_16 ?_
  cases h
  exact absurd rfl hz
set_option maxHeartbeats 4000000 in
set_option maxRecDepth 100000 in
theorem tX5_creditIn (l : Launch) (G : gX) (u : gU) (hF : gFull u) (a0 : Nat) (p1 : Int32) (p2 : Int32) (m : gM) (o : gM × Nat × Int32) (h : fX5_creditIn a0 p1 p2 m = some o) (hz : o.2.1 = 0) (h0 : gIn u a0 4 0) : gMet l G u yX5_creditIn (.code yX5_creditIn cX5_creditIn 3 (some .int)) rmX5_creditIn [.ref a0, .int p1, .int p2] m o.1 (some (.int o.2.2)) := by
  refine gMet_of (own := RX5) (k := 0) (by decide) rfl ⟨rfl, rfl⟩ (Nat.le_of_ble_eq_true rfl) [some (.ref a0), some (.int p1), some (.int p2)] rfl (fun Y hG hu hnL hLn hRm he => ?_)
  subst hG hu hLn
  unfold fX5_creditIn at h
  refine r_aload_n (pc := 0) dX5_creditIn_0 rfl rfl ?_
  refine fX5_19 (pc := 1) hF dX5_creditIn_1 h0 (fun b1 => ?_)
  refine r_iload_n (pc := 4) dX5_creditIn_4 rfl rfl ?_
  obtain ⟨m2, x3, q4, h⟩ := gCl_some h
  refine r_callVN (kd := 0) (pc := 5) [.int _] (tX0_hasCustomer _ _ _ hF _ _ _ _ q4 b1) ⟨rfl, rfl⟩ cd_X0_hasCustomer wX5_84 nm_X0_hasCustomer rfl (by rw [hRm]; decide) rfl (Nat.le_of_ble_eq_true rfl) rfl (by decide) b1 dX5_creditIn_5 ?_
  obtain ⟨g5, h⟩ := gDem_ret (by decide) h hz
  refine r_callS (pc := 8) [.int _] (tX5_demandPlace _ _ _ _ _ g5) ⟨rfl, rfl⟩ cd_X5_demandPlace wX5_88 nm_X5_demandPlace rfl (by rw [hRm]; decide) rfl (Nat.le_of_ble_eq_true rfl) dX5_creditIn_8 ?_
  refine r_iload_n (pc := 11) dX5_creditIn_11 rfl rfl ?_
  refine r_iconst (pc := 12) (v := 0) dX5_creditIn_12 (by decide) ?_
  refine r_sipush (pc := 13) (v := 200) dX5_creditIn_13 (by decide) ?_
  obtain ⟨m6, x7, q8, h⟩ := gCl_some h
  refine r_callS (pc := 16) [.int _, .int _, .int _] (tX5_isWithin _ _ _ hF _ _ _ _ _ q8) ⟨rfl, rfl⟩ cd_X5_isWithin wX5_41 nm_X5_isWithin rfl (by rw [hRm]; decide) rfl (Nat.le_of_ble_eq_true rfl) dX5_creditIn_16 ?_
  obtain ⟨g9, h⟩ := gDem_ret (by decide) h hz
  refine r_callS (pc := 19) [.int _] (tX5_demandArgument _ _ _ _ _ g9) ⟨rfl, rfl⟩ cd_X5_demandArgument wX5_45 nm_X5_demandArgument rfl (by rw [hRm]; decide) rfl (Nat.le_of_ble_eq_true rfl) dX5_creditIn_19 ?_
  refine r_aload_n (pc := 22) dX5_creditIn_22 rfl rfl ?_
  refine fX5_23 (pc := 23) hF dX5_creditIn_23 h0 (fun b10 => ?_)
  refine r_aload_n (pc := 26) dX5_creditIn_26 rfl rfl ?_
  refine fX5_19 (pc := 27) hF dX5_creditIn_27 h0 (fun b11 => ?_)
  obtain ⟨m12, q14, h⟩ := gCv_some h
  refine r_callVN (kd := 0) (pc := 30) [.ref _] (tX0_copyFrom _ _ _ hF _ _ _ _ q14 b10 b11) ⟨rfl, rfl⟩ cd_X0_copyFrom wX5_160 nm_X0_copyFrom rfl (by rw [hRm]; decide) rfl (Nat.le_of_ble_eq_true rfl) rfl (by decide) b10 dX5_creditIn_30 ?_
  refine r_aload_n (pc := 33) dX5_creditIn_33 rfl rfl ?_
  refine fX5_23 (pc := 34) hF dX5_creditIn_34 h0 (fun b15 => ?_)
  refine r_iload_n (pc := 37) dX5_creditIn_37 rfl rfl ?_
  obtain ⟨m16, x17, q18, h⟩ := gCl_some h
  refine r_callVN (kd := 0) (pc := 38) [.int _] (tX0_deliver _ _ _ hF _ _ _ _ q18 b15) ⟨rfl, rfl⟩ cd_X0_deliver wX5_164 nm_X0_deliver rfl (by rw [hRm]; decide) rfl (Nat.le_of_ble_eq_true rfl) rfl (by decide) b15 dX5_creditIn_38 ?_
  refine r_pop (pc := 41) dX5_creditIn_41 rfl ?_
  refine r_aload_n (pc := 42) dX5_creditIn_42 rfl rfl ?_
  refine fX5_23 (pc := 43) hF dX5_creditIn_43 h0 (fun b19 => ?_)
  refine fX5_91 (pc := 46) hF dX5_creditIn_46 b19 (fun b20 => ?_)
  refine r_iload_n (pc := 49) dX5_creditIn_49 rfl rfl ?_
  refine r_cust (pc := 50) hF dX5_creditIn_50 b20 h (fun c21 b22 h => ?_)
  refine fX5_167 (pc := 51) dX5_creditIn_51 b22 h (fun x23 h => ?_)
  exact r_iretX dX5_creditIn_54 h he
set_option maxHeartbeats 4000000 in
set_option maxRecDepth 100000 in
theorem tX5_creditInT (l : Launch) (hlt : l.stackTraces = false) (G : gX) (u : gU) (hF : gFull u) (a0 : Nat) (p1 : Int32) (p2 : Int32) (m : gM) (o : gM × Nat × Int32) (h : fX5_creditIn a0 p1 p2 m = some o) (hz : o.2.1 ≠ 0) (h0 : gIn u a0 4 0) : gMetT l G u yX5_creditIn (.code yX5_creditIn cX5_creditIn 3 (some .int)) rmX5_creditInT [.ref a0, .int p1, .int p2] m o.1 (gEn o.2.1) := by
  refine gMetT_of hlt (own := RX5) (k := 0) (by decide) rfl ⟨rfl, rfl⟩ (Nat.le_of_ble_eq_true rfl) [some (.ref a0), some (.int p1), some (.int p2)] rfl (fun Y hG hu hnL hLn hRm he => ?_)
  subst hG hu hLn
  unfold fX5_creditIn at h
  refine r_aload_n (pc := 0) dX5_creditIn_0 rfl rfl ?_
  refine fX5_19 (pc := 1) hF dX5_creditIn_1 h0 (fun b24 => ?_)
  refine r_iload_n (pc := 4) dX5_creditIn_4 rfl rfl ?_
  obtain ⟨m25, x26, q27, h⟩ := gCl_some h
  refine r_callVN (kd := 0) (pc := 5) [.int _] (tX0_hasCustomer _ _ _ hF _ _ _ _ q27 b24) ⟨rfl, rfl⟩ cd_X0_hasCustomer wX5_84 nm_X0_hasCustomer rfl (by rw [hRm]; decide) rfl (Nat.le_of_ble_eq_true rfl) rfl (by decide) b24 dX5_creditIn_5 ?_
  rcases gDem_thr h with ⟨g28, eg28⟩ | ⟨g28, h⟩
  · subst eg28
    exact r_callST (pc := 8) [.int _] (tX5_demandPlaceT _ hlt _ _ _ _ g28) ⟨rfl, rfl⟩ cd_X5_demandPlace wX5_88 nm_X5_demandPlace rfl (by rw [hRm]; decide) rfl (Nat.le_of_ble_eq_true rfl) dX5_creditIn_8 he
  refine r_callS (pc := 8) [.int _] (tX5_demandPlace _ _ _ _ _ g28) ⟨rfl, rfl⟩ cd_X5_demandPlace wX5_88 nm_X5_demandPlace rfl (by rw [hRm]; decide) rfl (Nat.le_of_ble_eq_true rfl) dX5_creditIn_8 ?_
  refine r_iload_n (pc := 11) dX5_creditIn_11 rfl rfl ?_
  refine r_iconst (pc := 12) (v := 0) dX5_creditIn_12 (by decide) ?_
  refine r_sipush (pc := 13) (v := 200) dX5_creditIn_13 (by decide) ?_
  obtain ⟨m29, x30, q31, h⟩ := gCl_some h
  refine r_callS (pc := 16) [.int _, .int _, .int _] (tX5_isWithin _ _ _ hF _ _ _ _ _ q31) ⟨rfl, rfl⟩ cd_X5_isWithin wX5_41 nm_X5_isWithin rfl (by rw [hRm]; decide) rfl (Nat.le_of_ble_eq_true rfl) dX5_creditIn_16 ?_
  rcases gDem_thr h with ⟨g32, eg32⟩ | ⟨g32, h⟩
  · subst eg32
    exact r_callST (pc := 19) [.int _] (tX5_demandArgumentT _ hlt _ _ _ _ g32) ⟨rfl, rfl⟩ cd_X5_demandArgument wX5_45 nm_X5_demandArgument rfl (by rw [hRm]; decide) rfl (Nat.le_of_ble_eq_true rfl) dX5_creditIn_19 he
  refine r_callS (pc := 19) [.int _] (tX5_demandArgument _ _ _ _ _ g32) ⟨rfl, rfl⟩ cd_X5_demandArgument wX5_45 nm_X5_demandArgument rfl (by rw [hRm]; decide) rfl (Nat.le_of_ble_eq_true rfl) dX5_creditIn_19 ?_
  refine r_aload_n (pc := 22) dX5_creditIn_22 rfl rfl ?_
  refine fX5_23 (pc := 23) hF dX5_creditIn_23 h0 (fun b33 => ?_)
  refine r_aload_n (pc := 26) dX5_creditIn_26 rfl rfl ?_
  refine fX5_19 (pc := 27) hF dX5_creditIn_27 h0 (fun b34 => ?_)
  obtain ⟨m35, q37, h⟩ := gCv_some h
  refine r_callVN (kd := 0) (pc := 30) [.ref _] (tX0_copyFrom _ _ _ hF _ _ _ _ q37 b33 b34) ⟨rfl, rfl⟩ cd_X0_copyFrom wX5_160 nm_X0_copyFrom rfl (by rw [hRm]; decide) rfl (Nat.le_of_ble_eq_true rfl) rfl (by decide) b33 dX5_creditIn_30 ?_
  refine r_aload_n (pc := 33) dX5_creditIn_33 rfl rfl ?_
  refine fX5_23 (pc := 34) hF dX5_creditIn_34 h0 (fun b38 => ?_)
  refine r_iload_n (pc := 37) dX5_creditIn_37 rfl rfl ?_
  obtain ⟨m39, x40, q41, h⟩ := gCl_some h
  refine r_callVN (kd := 0) (pc := 38) [.int _] (tX0_deliver _ _ _ hF _ _ _ _ q41 b38) ⟨rfl, rfl⟩ cd_X0_deliver wX5_164 nm_X0_deliver rfl (by rw [hRm]; decide) rfl (Nat.le_of_ble_eq_true rfl) rfl (by decide) b38 dX5_creditIn_38 ?_
  refine r_pop (pc := 41) dX5_creditIn_41 rfl ?_
  refine r_aload_n (pc := 42) dX5_creditIn_42 rfl rfl ?_
  refine fX5_23 (pc := 43) hF dX5_creditIn_43 h0 (fun b42 => ?_)
  refine fX5_91 (pc := 46) hF dX5_creditIn_46 b42 (fun b43 => ?_)
  refine r_iload_n (pc := 49) dX5_creditIn_49 rfl rfl ?_
  refine r_cust (pc := 50) hF dX5_creditIn_50 b43 h (fun c44 b45 h => ?_)
  refine fX5_167 (pc := 51) dX5_creditIn_51 b45 h (fun x46 h => ?_)
  cases h
  exact absurd rfl hz
set_option maxHeartbeats 4000000 in
set_option maxRecDepth 100000 in
theorem tX5_clearIn (l : Launch) (G : gX) (u : gU) (hF : gFull u) (a0 : Nat) (p1 : Int32) (m : gM) (o : gM × Nat × Int32) (h : fX5_clearIn a0 p1 m = some o) (hz : o.2.1 = 0) (h0 : gIn u a0 4 0) : gMet l G u yX5_clearIn (.code yX5_clearIn cX5_clearIn 3 (some .int)) rmX5_clearIn [.ref a0, .int p1] m o.1 (some (.int o.2.2)) := by
  refine gMet_of (own := RX5) (k := 1) (by decide) rfl ⟨rfl, rfl⟩ (Nat.le_of_ble_eq_true rfl) [some (.ref a0), some (.int p1), none] rfl (fun Y hG hu hnL hLn hRm he => ?_)
  subst hG hu hLn
  unfold fX5_clearIn at h
  refine r_aload_n (pc := 0) dX5_clearIn_0 rfl rfl ?_
  refine fX5_19 (pc := 1) hF dX5_clearIn_1 h0 (fun b1 => ?_)
  refine r_iload_n (pc := 4) dX5_clearIn_4 rfl rfl ?_
  obtain ⟨m2, x3, q4, h⟩ := gCl_some h
  refine r_callVN (kd := 0) (pc := 5) [.int _] (tX0_hasCustomer _ _ _ hF _ _ _ _ q4 b1) ⟨rfl, rfl⟩ cd_X0_hasCustomer wX5_84 nm_X0_hasCustomer rfl (by rw [hRm]; decide) rfl (Nat.le_of_ble_eq_true rfl) rfl (by decide) b1 dX5_clearIn_5 ?_
  obtain ⟨g5, h⟩ := gDem_ret (by decide) h hz
  refine r_callS (pc := 8) [.int _] (tX5_demandPlace _ _ _ _ _ g5) ⟨rfl, rfl⟩ cd_X5_demandPlace wX5_88 nm_X5_demandPlace rfl (by rw [hRm]; decide) rfl (Nat.le_of_ble_eq_true rfl) dX5_clearIn_8 ?_
  refine r_aload_n (pc := 11) dX5_clearIn_11 rfl rfl ?_
  refine fX5_23 (pc := 12) hF dX5_clearIn_12 h0 (fun b6 => ?_)
  refine r_aload_n (pc := 15) dX5_clearIn_15 rfl rfl ?_
  refine fX5_19 (pc := 16) hF dX5_clearIn_16 h0 (fun b7 => ?_)
  obtain ⟨m8, q10, h⟩ := gCv_some h
  refine r_callVN (kd := 0) (pc := 19) [.ref _] (tX0_copyFrom _ _ _ hF _ _ _ _ q10 b6 b7) ⟨rfl, rfl⟩ cd_X0_copyFrom wX5_160 nm_X0_copyFrom rfl (by rw [hRm]; decide) rfl (Nat.le_of_ble_eq_true rfl) rfl (by decide) b6 dX5_clearIn_19 ?_
  refine r_iconst (pc := 22) (v := 0) dX5_clearIn_22 (by decide) ?_
  refine r_istore_n (pc := 23) dX5_clearIn_23 rfl (by rw [hnL]; decide) rfl ?_
  have L23 : ∀ (n21 : Nat) (v24 : Int32) (m25 : gM), fX5_clearIn_L24 a0 p1 n21 v24 m25 = some o → AW Y cX5_clearIn RX5 24 [some (.ref a0), some (.int p1), some (.int v24)] [] m25 := by
    intro n21
    induction n21 with
    | zero =>
      intro v24 m25 h
      exact absurd h (by simp [fX5_clearIn_L24])
    | succ n21 ih22 =>
      intro v24 m25 h
      rw [fX5_clearIn_L24] at h
      refine r_iload_n (pc := 24) dX5_clearIn_24 rfl rfl ?_
      refine r_sipush (pc := 25) (v := 200) dX5_clearIn_25 (by decide) ?_
      refine r_icmp_gt (pc := 28) (tgt := 63) dX5_clearIn_28 (by decide) h (fun h => ?_) (fun h => ?_)
      · refine r_iconst (pc := 63) (v := (-1)) dX5_clearIn_63 (by decide) ?_
        exact r_iretX dX5_clearIn_64 h he
      · refine r_aload_n (pc := 31) dX5_clearIn_31 rfl rfl ?_
        refine fX5_23 (pc := 32) hF dX5_clearIn_32 h0 (fun b26 => ?_)
        refine fX5_91 (pc := 35) hF dX5_clearIn_35 b26 (fun b27 => ?_)
        refine r_iload_n (pc := 38) dX5_clearIn_38 rfl rfl ?_
        refine r_cust (pc := 39) hF dX5_clearIn_39 b27 h (fun c28 b29 h => ?_)
        refine fX5_167 (pc := 40) dX5_clearIn_40 b29 h (fun x30 h => ?_)
        refine r_if_ne (pc := 43) (tgt := 48) dX5_clearIn_43 (by decide) h (fun h => ?_) (fun h => ?_)
        · refine r_aload_n (pc := 48) dX5_clearIn_48 rfl rfl ?_
          refine fX5_23 (pc := 49) hF dX5_clearIn_49 h0 (fun b31 => ?_)
          refine r_iconst (pc := 52) (v := 1) dX5_clearIn_52 (by decide) ?_
          obtain ⟨m32, x33, q34, h⟩ := gCl_some h
          refine r_callVN (kd := 0) (pc := 53) [.int _] (tX0_deliver _ _ _ hF _ _ _ _ q34 b31) ⟨rfl, rfl⟩ cd_X0_deliver wX5_164 nm_X0_deliver rfl (by rw [hRm]; decide) rfl (Nat.le_of_ble_eq_true rfl) rfl (by decide) b31 dX5_clearIn_53 ?_
          refine r_pop (pc := 56) dX5_clearIn_56 rfl ?_
          refine r_iinc (pc := 57) (d := 1) dX5_clearIn_57 rfl (by decide) (by rw [hnL]; decide) h (fun x35 h => ?_)
          refine r_goto (pc := 60) (tgt := 24) dX5_clearIn_60 (by decide) ?_
          exact r_mask [true, true, true] rfl (ih22 _ _ h)
        · refine r_iload_n (pc := 46) dX5_clearIn_46 rfl rfl ?_
          exact r_iretX dX5_clearIn_47 h he
  exact r_mask [true, true, true] rfl (L23 _ _ _ h)
set_option maxHeartbeats 4000000 in
set_option maxRecDepth 100000 in
theorem tX5_clearInT (l : Launch) (hlt : l.stackTraces = false) (G : gX) (u : gU) (hF : gFull u) (a0 : Nat) (p1 : Int32) (m : gM) (o : gM × Nat × Int32) (h : fX5_clearIn a0 p1 m = some o) (hz : o.2.1 ≠ 0) (h0 : gIn u a0 4 0) : gMetT l G u yX5_clearIn (.code yX5_clearIn cX5_clearIn 3 (some .int)) rmX5_clearInT [.ref a0, .int p1] m o.1 (gEn o.2.1) := by
  refine gMetT_of hlt (own := RX5) (k := 1) (by decide) rfl ⟨rfl, rfl⟩ (Nat.le_of_ble_eq_true rfl) [some (.ref a0), some (.int p1), none] rfl (fun Y hG hu hnL hLn hRm he => ?_)
  subst hG hu hLn
  unfold fX5_clearIn at h
  refine r_aload_n (pc := 0) dX5_clearIn_0 rfl rfl ?_
  refine fX5_19 (pc := 1) hF dX5_clearIn_1 h0 (fun b36 => ?_)
  refine r_iload_n (pc := 4) dX5_clearIn_4 rfl rfl ?_
  obtain ⟨m37, x38, q39, h⟩ := gCl_some h
  refine r_callVN (kd := 0) (pc := 5) [.int _] (tX0_hasCustomer _ _ _ hF _ _ _ _ q39 b36) ⟨rfl, rfl⟩ cd_X0_hasCustomer wX5_84 nm_X0_hasCustomer rfl (by rw [hRm]; decide) rfl (Nat.le_of_ble_eq_true rfl) rfl (by decide) b36 dX5_clearIn_5 ?_
  rcases gDem_thr h with ⟨g40, eg40⟩ | ⟨g40, h⟩
  · subst eg40
    exact r_callST (pc := 8) [.int _] (tX5_demandPlaceT _ hlt _ _ _ _ g40) ⟨rfl, rfl⟩ cd_X5_demandPlace wX5_88 nm_X5_demandPlace rfl (by rw [hRm]; decide) rfl (Nat.le_of_ble_eq_true rfl) dX5_clearIn_8 he
  refine r_callS (pc := 8) [.int _] (tX5_demandPlace _ _ _ _ _ g40) ⟨rfl, rfl⟩ cd_X5_demandPlace wX5_88 nm_X5_demandPlace rfl (by rw [hRm]; decide) rfl (Nat.le_of_ble_eq_true rfl) dX5_clearIn_8 ?_
  refine r_aload_n (pc := 11) dX5_clearIn_11 rfl rfl ?_
  refine fX5_23 (pc := 12) hF dX5_clearIn_12 h0 (fun b41 => ?_)
  refine r_aload_n (pc := 15) dX5_clearIn_15 rfl rfl ?_
  refine fX5_19 (pc := 16) hF dX5_clearIn_16 h0 (fun b42 => ?_)
  obtain ⟨m43, q45, h⟩ := gCv_some h
  refine r_callVN (kd := 0) (pc := 19) [.ref _] (tX0_copyFrom _ _ _ hF _ _ _ _ q45 b41 b42) ⟨rfl, rfl⟩ cd_X0_copyFrom wX5_160 nm_X0_copyFrom rfl (by rw [hRm]; decide) rfl (Nat.le_of_ble_eq_true rfl) rfl (by decide) b41 dX5_clearIn_19 ?_
  refine r_iconst (pc := 22) (v := 0) dX5_clearIn_22 (by decide) ?_
  refine r_istore_n (pc := 23) dX5_clearIn_23 rfl (by rw [hnL]; decide) rfl ?_
  have L58 : ∀ (n56 : Nat) (v59 : Int32) (m60 : gM), fX5_clearIn_L24 a0 p1 n56 v59 m60 = some o → AW Y cX5_clearIn RX5 24 [some (.ref a0), some (.int p1), some (.int v59)] [] m60 := by
    intro n56
    induction n56 with
    | zero =>
      intro v59 m60 h
      exact absurd h (by simp [fX5_clearIn_L24])
    | succ n56 ih57 =>
      intro v59 m60 h
      rw [fX5_clearIn_L24] at h
      refine r_iload_n (pc := 24) dX5_clearIn_24 rfl rfl ?_
      refine r_sipush (pc := 25) (v := 200) dX5_clearIn_25 (by decide) ?_
      refine r_icmp_gt (pc := 28) (tgt := 63) dX5_clearIn_28 (by decide) h (fun h => ?_) (fun h => ?_)
      · refine r_iconst (pc := 63) (v := (-1)) dX5_clearIn_63 (by decide) ?_
        cases h
        exact absurd rfl hz
      · refine r_aload_n (pc := 31) dX5_clearIn_31 rfl rfl ?_
        refine fX5_23 (pc := 32) hF dX5_clearIn_32 h0 (fun b61 => ?_)
        refine fX5_91 (pc := 35) hF dX5_clearIn_35 b61 (fun b62 => ?_)
        refine r_iload_n (pc := 38) dX5_clearIn_38 rfl rfl ?_
        refine r_cust (pc := 39) hF dX5_clearIn_39 b62 h (fun c63 b64 h => ?_)
        refine fX5_167 (pc := 40) dX5_clearIn_40 b64 h (fun x65 h => ?_)
        refine r_if_ne (pc := 43) (tgt := 48) dX5_clearIn_43 (by decide) h (fun h => ?_) (fun h => ?_)
        · refine r_aload_n (pc := 48) dX5_clearIn_48 rfl rfl ?_
          refine fX5_23 (pc := 49) hF dX5_clearIn_49 h0 (fun b66 => ?_)
          refine r_iconst (pc := 52) (v := 1) dX5_clearIn_52 (by decide) ?_
          obtain ⟨m67, x68, q69, h⟩ := gCl_some h
          refine r_callVN (kd := 0) (pc := 53) [.int _] (tX0_deliver _ _ _ hF _ _ _ _ q69 b66) ⟨rfl, rfl⟩ cd_X0_deliver wX5_164 nm_X0_deliver rfl (by rw [hRm]; decide) rfl (Nat.le_of_ble_eq_true rfl) rfl (by decide) b66 dX5_clearIn_53 ?_
          refine r_pop (pc := 56) dX5_clearIn_56 rfl ?_
          refine r_iinc (pc := 57) (d := 1) dX5_clearIn_57 rfl (by decide) (by rw [hnL]; decide) h (fun x70 h => ?_)
          refine r_goto (pc := 60) (tgt := 24) dX5_clearIn_60 (by decide) ?_
          exact r_mask [true, true, true] rfl (ih57 _ _ h)
        · refine r_iload_n (pc := 46) dX5_clearIn_46 rfl rfl ?_
          cases h
          exact absurd rfl hz
  exact r_mask [true, true, true] rfl (L58 _ _ _ h)
set_option maxHeartbeats 4000000 in
set_option maxRecDepth 100000 in
theorem tX5_leastOven (l : Launch) (G : gX) (u : gU) (hF : gFull u) (a0 : Nat) (p1 : Int32) (m : gM) (o : gM × Nat × Int32) (h : fX5_leastOven a0 p1 m = some o) (hz : o.2.1 = 0) (h0 : gIn u a0 4 0) : gMet l G u yX5_leastOven (.code yX5_leastOven cX5_leastOven 4 (some .int)) rmX5_leastOven [.ref a0, .int p1] m o.1 (some (.int o.2.2)) := by
  refine gMet_of (own := RX5) (k := 2) (by decide) rfl ⟨rfl, rfl⟩ (Nat.le_of_ble_eq_true rfl) [some (.ref a0), some (.int p1), none, none] rfl (fun Y hG hu hnL hLn hRm he => ?_)
  subst hG hu hLn
  unfold fX5_leastOven at h
  refine r_iload_n (pc := 0) dX5_leastOven_0 rfl rfl ?_
  refine r_iconst (pc := 1) (v := 1) dX5_leastOven_1 (by decide) ?_
  refine r_bipush (pc := 2) (v := 60) dX5_leastOven_2 (by decide) ?_
  obtain ⟨m1, x2, q3, h⟩ := gCl_some h
  refine r_callS (pc := 4) [.int _, .int _, .int _] (tX5_isWithin _ _ _ hF _ _ _ _ _ q3) ⟨rfl, rfl⟩ cd_X5_isWithin wX5_41 nm_X5_isWithin rfl (by rw [hRm]; decide) rfl (Nat.le_of_ble_eq_true rfl) dX5_leastOven_4 ?_
  obtain ⟨g4, h⟩ := gDem_ret (by decide) h hz
  refine r_callS (pc := 7) [.int _] (tX5_demandArgument _ _ _ _ _ g4) ⟨rfl, rfl⟩ cd_X5_demandArgument wX5_45 nm_X5_demandArgument rfl (by rw [hRm]; decide) rfl (Nat.le_of_ble_eq_true rfl) dX5_leastOven_7 ?_
  refine r_iconst (pc := 10) (v := 0) dX5_leastOven_10 (by decide) ?_
  refine r_istore_n (pc := 11) dX5_leastOven_11 rfl (by rw [hnL]; decide) rfl ?_
  refine r_aload_n (pc := 12) dX5_leastOven_12 rfl rfl ?_
  refine fX5_19 (pc := 13) hF dX5_leastOven_13 h0 (fun b5 => ?_)
  refine fX5_95 (pc := 16) dX5_leastOven_16 b5 h (fun x6 h => ?_)
  refine r_istore_n (pc := 19) dX5_leastOven_19 rfl (by rw [hnL]; decide) rfl ?_
  have L17 : ∀ (n15 : Nat) (v18 : Int32) (v19 : Int32) (m20 : gM), fX5_leastOven_L20 a0 p1 n15 v18 v19 m20 = some o → AW Y cX5_leastOven RX5 20 [some (.ref a0), some (.int p1), some (.int v18), some (.int v19)] [] m20 := by
    intro n15
    induction n15 with
    | zero =>
      intro v18 v19 m20 h
      exact absurd h (by simp [fX5_leastOven_L20])
    | succ n15 ih16 =>
      intro v18 v19 m20 h
      rw [fX5_leastOven_L20] at h
      refine r_iload_n (pc := 20) dX5_leastOven_20 rfl rfl ?_
      refine r_aload_n (pc := 21) dX5_leastOven_21 rfl rfl ?_
      refine fX5_19 (pc := 22) hF dX5_leastOven_22 h0 (fun b21 => ?_)
      refine fX5_95 (pc := 25) dX5_leastOven_25 b21 h (fun x22 h => ?_)
      refine r_iload_n (pc := 28) dX5_leastOven_28 rfl rfl ?_
      refine r_iadd (pc := 29) dX5_leastOven_29 ?_
      refine r_icmp_ge (pc := 30) (tgt := 52) dX5_leastOven_30 (by decide) h (fun h => ?_) (fun h => ?_)
      · refine r_iload_n (pc := 52) dX5_leastOven_52 rfl rfl ?_
        exact r_iretX dX5_leastOven_53 h he
      · refine r_iload_n (pc := 33) dX5_leastOven_33 rfl rfl ?_
        refine r_aload_n (pc := 34) dX5_leastOven_34 rfl rfl ?_
        refine fX5_19 (pc := 35) hF dX5_leastOven_35 h0 (fun b23 => ?_)
        refine r_iload_n (pc := 38) dX5_leastOven_38 rfl rfl ?_
        obtain ⟨m24, x25, q26, h⟩ := gCl_some h
        refine r_callVN (kd := 0) (pc := 39) [.int _] (tX0_dueInOpenStreets _ _ _ hF _ _ _ _ q26 b23) ⟨rfl, rfl⟩ cd_X0_dueInOpenStreets wX5_170 nm_X0_dueInOpenStreets rfl (by rw [hRm]; decide) rfl (Nat.le_of_ble_eq_true rfl) rfl (by decide) b23 dX5_leastOven_39 ?_
        refine r_mmax (pc := 42) dX5_leastOven_42 (i := 173) mwX5_173 (by rw [hRm]; decide) (Nat.le_of_ble_eq_true rfl) h (fun x27 h => ?_)
        refine r_istore_n (pc := 45) dX5_leastOven_45 rfl (by rw [hnL]; decide) rfl ?_
        refine r_iinc (pc := 46) (d := 1) dX5_leastOven_46 rfl (by decide) (by rw [hnL]; decide) h (fun x28 h => ?_)
        refine r_goto (pc := 49) (tgt := 20) dX5_leastOven_49 (by decide) ?_
        exact r_mask [true, true, true, true] rfl (ih16 _ _ _ h)
  exact r_mask [true, true, true, true] rfl (L17 _ _ _ _ h)
set_option maxHeartbeats 4000000 in
set_option maxRecDepth 100000 in
theorem tX5_leastOvenT (l : Launch) (hlt : l.stackTraces = false) (G : gX) (u : gU) (hF : gFull u) (a0 : Nat) (p1 : Int32) (m : gM) (o : gM × Nat × Int32) (h : fX5_leastOven a0 p1 m = some o) (hz : o.2.1 ≠ 0) (h0 : gIn u a0 4 0) : gMetT l G u yX5_leastOven (.code yX5_leastOven cX5_leastOven 4 (some .int)) rmX5_leastOvenT [.ref a0, .int p1] m o.1 (gEn o.2.1) := by
  refine gMetT_of hlt (own := RX5) (k := 2) (by decide) rfl ⟨rfl, rfl⟩ (Nat.le_of_ble_eq_true rfl) [some (.ref a0), some (.int p1), none, none] rfl (fun Y hG hu hnL hLn hRm he => ?_)
  subst hG hu hLn
  unfold fX5_leastOven at h
  refine r_iload_n (pc := 0) dX5_leastOven_0 rfl rfl ?_
  refine r_iconst (pc := 1) (v := 1) dX5_leastOven_1 (by decide) ?_
  refine r_bipush (pc := 2) (v := 60) dX5_leastOven_2 (by decide) ?_
  obtain ⟨m29, x30, q31, h⟩ := gCl_some h
  refine r_callS (pc := 4) [.int _, .int _, .int _] (tX5_isWithin _ _ _ hF _ _ _ _ _ q31) ⟨rfl, rfl⟩ cd_X5_isWithin wX5_41 nm_X5_isWithin rfl (by rw [hRm]; decide) rfl (Nat.le_of_ble_eq_true rfl) dX5_leastOven_4 ?_
  rcases gDem_thr h with ⟨g32, eg32⟩ | ⟨g32, h⟩
  · subst eg32
    exact r_callST (pc := 7) [.int _] (tX5_demandArgumentT _ hlt _ _ _ _ g32) ⟨rfl, rfl⟩ cd_X5_demandArgument wX5_45 nm_X5_demandArgument rfl (by rw [hRm]; decide) rfl (Nat.le_of_ble_eq_true rfl) dX5_leastOven_7 he
  refine r_callS (pc := 7) [.int _] (tX5_demandArgument _ _ _ _ _ g32) ⟨rfl, rfl⟩ cd_X5_demandArgument wX5_45 nm_X5_demandArgument rfl (by rw [hRm]; decide) rfl (Nat.le_of_ble_eq_true rfl) dX5_leastOven_7 ?_
  refine r_iconst (pc := 10) (v := 0) dX5_leastOven_10 (by decide) ?_
  refine r_istore_n (pc := 11) dX5_leastOven_11 rfl (by rw [hnL]; decide) rfl ?_
  refine r_aload_n (pc := 12) dX5_leastOven_12 rfl rfl ?_
  refine fX5_19 (pc := 13) hF dX5_leastOven_13 h0 (fun b33 => ?_)
  refine fX5_95 (pc := 16) dX5_leastOven_16 b33 h (fun x34 h => ?_)
  refine r_istore_n (pc := 19) dX5_leastOven_19 rfl (by rw [hnL]; decide) rfl ?_
  have L45 : ∀ (n43 : Nat) (v46 : Int32) (v47 : Int32) (m48 : gM), fX5_leastOven_L20 a0 p1 n43 v46 v47 m48 = some o → AW Y cX5_leastOven RX5 20 [some (.ref a0), some (.int p1), some (.int v46), some (.int v47)] [] m48 := by
    intro n43
    induction n43 with
    | zero =>
      intro v46 v47 m48 h
      exact absurd h (by simp [fX5_leastOven_L20])
    | succ n43 ih44 =>
      intro v46 v47 m48 h
      rw [fX5_leastOven_L20] at h
      refine r_iload_n (pc := 20) dX5_leastOven_20 rfl rfl ?_
      refine r_aload_n (pc := 21) dX5_leastOven_21 rfl rfl ?_
      refine fX5_19 (pc := 22) hF dX5_leastOven_22 h0 (fun b49 => ?_)
      refine fX5_95 (pc := 25) dX5_leastOven_25 b49 h (fun x50 h => ?_)
      refine r_iload_n (pc := 28) dX5_leastOven_28 rfl rfl ?_
      refine r_iadd (pc := 29) dX5_leastOven_29 ?_
      refine r_icmp_ge (pc := 30) (tgt := 52) dX5_leastOven_30 (by decide) h (fun h => ?_) (fun h => ?_)
      · refine r_iload_n (pc := 52) dX5_leastOven_52 rfl rfl ?_
        cases h
        exact absurd rfl hz
      · refine r_iload_n (pc := 33) dX5_leastOven_33 rfl rfl ?_
        refine r_aload_n (pc := 34) dX5_leastOven_34 rfl rfl ?_
        refine fX5_19 (pc := 35) hF dX5_leastOven_35 h0 (fun b51 => ?_)
        refine r_iload_n (pc := 38) dX5_leastOven_38 rfl rfl ?_
        obtain ⟨m52, x53, q54, h⟩ := gCl_some h
        refine r_callVN (kd := 0) (pc := 39) [.int _] (tX0_dueInOpenStreets _ _ _ hF _ _ _ _ q54 b51) ⟨rfl, rfl⟩ cd_X0_dueInOpenStreets wX5_170 nm_X0_dueInOpenStreets rfl (by rw [hRm]; decide) rfl (Nat.le_of_ble_eq_true rfl) rfl (by decide) b51 dX5_leastOven_39 ?_
        refine r_mmax (pc := 42) dX5_leastOven_42 (i := 173) mwX5_173 (by rw [hRm]; decide) (Nat.le_of_ble_eq_true rfl) h (fun x55 h => ?_)
        refine r_istore_n (pc := 45) dX5_leastOven_45 rfl (by rw [hnL]; decide) rfl ?_
        refine r_iinc (pc := 46) (d := 1) dX5_leastOven_46 rfl (by decide) (by rw [hnL]; decide) h (fun x56 h => ?_)
        refine r_goto (pc := 49) (tgt := 20) dX5_leastOven_49 (by decide) ?_
        exact r_mask [true, true, true, true] rfl (ih44 _ _ _ h)
  exact r_mask [true, true, true, true] rfl (L45 _ _ _ _ h)
set_option maxHeartbeats 4000000 in
set_option maxRecDepth 100000 in
theorem tX5_bestRound (l : Launch) (G : gX) (u : gU) (hF : gFull u) (a0 : Nat) (p1 : Int32) (m : gM) (o : gM × Nat × Int32) (h : fX5_bestRound a0 p1 m = some o) (hz : o.2.1 = 0) (h0 : gIn u a0 4 0) : gMet l G u yX5_bestRound (.code yX5_bestRound cX5_bestRound 6 (some .int)) rmX5_bestRound [.ref a0, .int p1] m o.1 (some (.int o.2.2)) := by
  refine gMet_of (own := RX5) (k := 4) (by decide) rfl ⟨rfl, rfl⟩ (Nat.le_of_ble_eq_true rfl) [some (.ref a0), some (.int p1), none, none, none, none] rfl (fun Y hG hu hnL hLn hRm he => ?_)
  subst hG hu hLn
  unfold fX5_bestRound at h
  refine r_iload_n (pc := 0) dX5_bestRound_0 rfl rfl ?_
  refine r_iconst (pc := 1) (v := 1) dX5_bestRound_1 (by decide) ?_
  refine r_bipush (pc := 2) (v := 30) dX5_bestRound_2 (by decide) ?_
  obtain ⟨m1, x2, q3, h⟩ := gCl_some h
  refine r_callS (pc := 4) [.int _, .int _, .int _] (tX5_isWithin _ _ _ hF _ _ _ _ _ q3) ⟨rfl, rfl⟩ cd_X5_isWithin wX5_41 nm_X5_isWithin rfl (by rw [hRm]; decide) rfl (Nat.le_of_ble_eq_true rfl) dX5_bestRound_4 ?_
  obtain ⟨g4, h⟩ := gDem_ret (by decide) h hz
  refine r_callS (pc := 7) [.int _] (tX5_demandArgument _ _ _ _ _ g4) ⟨rfl, rfl⟩ cd_X5_demandArgument wX5_45 nm_X5_demandArgument rfl (by rw [hRm]; decide) rfl (Nat.le_of_ble_eq_true rfl) dX5_bestRound_7 ?_
  refine r_iconst (pc := 10) (v := (-1)) dX5_bestRound_10 (by decide) ?_
  refine r_istore_n (pc := 11) dX5_bestRound_11 rfl (by rw [hnL]; decide) rfl ?_
  refine r_iconst (pc := 12) (v := 0) dX5_bestRound_12 (by decide) ?_
  refine r_istore_n (pc := 13) dX5_bestRound_13 rfl (by rw [hnL]; decide) rfl ?_
  refine r_iconst (pc := 14) (v := 0) dX5_bestRound_14 (by decide) ?_
  refine r_istore (pc := 15) dX5_bestRound_15 (by rw [hnL]; decide) rfl ?_
  have L41 : ∀ (n39 : Nat) (v42 : Int32) (v43 : Int32) (v44 : Int32) (m45 : gM), fX5_bestRound_L17 a0 p1 n39 v42 v43 v44 m45 = some o → AW Y cX5_bestRound RX5 17 [some (.ref a0), some (.int p1), some (.int v42), some (.int v43), some (.int v44), none] [] m45 := by
    intro n39
    induction n39 with
    | zero =>
      intro v42 v43 v44 m45 h
      exact absurd h (by simp [fX5_bestRound_L17])
    | succ n39 ih40 =>
      intro v42 v43 v44 m45 h
      rw [fX5_bestRound_L17] at h
      refine r_iload (pc := 17) dX5_bestRound_17 rfl ?_
      refine r_sipush (pc := 19) (v := 256) dX5_bestRound_19 (by decide) ?_
      refine r_icmp_ge (pc := 22) (tgt := 100) dX5_bestRound_22 (by decide) h (fun h => ?_) (fun h => ?_)
      · refine r_iload_n (pc := 100) dX5_bestRound_100 rfl rfl ?_
        exact r_iretX dX5_bestRound_101 h he
      · refine r_iload (pc := 25) dX5_bestRound_25 rfl ?_
        obtain ⟨m46, x47, q48, h⟩ := gCl_some h
        refine r_callS (pc := 27) [.int _] (tX5_tellEachStreet _ _ _ hF _ _ _ q48) ⟨rfl, rfl⟩ cd_X5_tellEachStreet wX5_178 nm_X5_tellEachStreet rfl (by rw [hRm]; decide) rfl (Nat.le_of_ble_eq_true rfl) dX5_bestRound_27 ?_
        refine r_jnK h (fun (k52 : Int32 → Int32 → gM → Option (gM × Nat × Int32)) => ∀ (x49 : Int32) (x50 : Int32) (m51 : gM), k52 x49 x50 m51 = some o → AW Y cX5_bestRound RX5 94 [some (.ref a0), some (.int p1), some (.int x49), some (.int x50), some (.int v44), none] [] m51) (fun x49 x50 m51 h => ?_) (fun k52 hJ53 h => ?_)
        · refine r_iinc (pc := 94) (d := 1) dX5_bestRound_94 rfl (by decide) (by rw [hnL]; decide) h (fun x54 h => ?_)
          refine r_goto (pc := 97) (tgt := 17) dX5_bestRound_97 (by decide) ?_
          exact r_mask [true, true, true, true, true, false] rfl (ih40 _ _ _ _ h)
        · refine r_if_eq (pc := 30) (tgt := 94) dX5_bestRound_30 (by decide) h (fun h => ?_) (fun h => ?_)
          · exact r_mask [true, true, true, true, true, false] rfl (hJ53 _ _ _ h)
          · refine r_aload_n (pc := 33) dX5_bestRound_33 rfl rfl ?_
            refine fX5_23 (pc := 34) hF dX5_bestRound_34 h0 (fun b55 => ?_)
            refine r_aload_n (pc := 37) dX5_bestRound_37 rfl rfl ?_
            refine fX5_19 (pc := 38) hF dX5_bestRound_38 h0 (fun b56 => ?_)
            obtain ⟨m57, q59, h⟩ := gCv_some h
            refine r_callVN (kd := 0) (pc := 41) [.ref _] (tX0_copyFrom _ _ _ hF _ _ _ _ q59 b55 b56) ⟨rfl, rfl⟩ cd_X0_copyFrom wX5_160 nm_X0_copyFrom rfl (by rw [hRm]; decide) rfl (Nat.le_of_ble_eq_true rfl) rfl (by decide) b55 dX5_bestRound_41 ?_
            refine r_aload_n (pc := 44) dX5_bestRound_44 rfl rfl ?_
            refine fX5_23 (pc := 45) hF dX5_bestRound_45 h0 (fun b60 => ?_)
            refine r_iload (pc := 48) dX5_bestRound_48 rfl ?_
            obtain ⟨m61, q63, h⟩ := gCv_some h
            refine r_callVN (kd := 0) (pc := 50) [.int _] (tX0_takeOrder _ _ _ hF _ _ _ _ q63 b60) ⟨rfl, rfl⟩ cd_X0_takeOrder wX5_181 nm_X0_takeOrder rfl (by rw [hRm]; decide) rfl (Nat.le_of_ble_eq_true rfl) rfl (by decide) b60 dX5_bestRound_50 ?_
            refine r_aload_n (pc := 53) dX5_bestRound_53 rfl rfl ?_
            refine fX5_23 (pc := 54) hF dX5_bestRound_54 h0 (fun b64 => ?_)
            refine r_iload_n (pc := 57) dX5_bestRound_57 rfl rfl ?_
            obtain ⟨m65, x66, q67, h⟩ := gCl_some h
            refine r_callVN (kd := 0) (pc := 58) [.int _] (tX0_deliver _ _ _ hF _ _ _ _ q67 b64) ⟨rfl, rfl⟩ cd_X0_deliver wX5_164 nm_X0_deliver rfl (by rw [hRm]; decide) rfl (Nat.le_of_ble_eq_true rfl) rfl (by decide) b64 dX5_bestRound_58 ?_
            refine r_pop (pc := 61) dX5_bestRound_61 rfl ?_
            refine r_aload_n (pc := 62) dX5_bestRound_62 rfl rfl ?_
            refine fX5_23 (pc := 63) hF dX5_bestRound_63 h0 (fun b68 => ?_)
            refine r_iconst (pc := 66) (v := 2) dX5_bestRound_66 (by decide) ?_
            obtain ⟨m69, x70, q71, h⟩ := gCl_some h
            refine r_callVN (kd := 0) (pc := 67) [.int _] (tX0_sumOf _ _ _ hF _ _ _ _ q71 b68) ⟨rfl, rfl⟩ cd_X0_sumOf wX5_185 nm_X0_sumOf rfl (by rw [hRm]; decide) rfl (Nat.le_of_ble_eq_true rfl) rfl (by decide) b68 dX5_bestRound_67 ?_
            refine r_istore (pc := 70) dX5_bestRound_70 (by rw [hnL]; decide) rfl ?_
            refine r_iload_n (pc := 72) dX5_bestRound_72 rfl rfl ?_
            refine r_iconst (pc := 73) (v := (-1)) dX5_bestRound_73 (by decide) ?_
            refine r_icmp_eq (pc := 74) (tgt := 83) dX5_bestRound_74 (by decide) h (fun h => ?_) (fun h => ?_)
            · refine r_aload_n (pc := 83) dX5_bestRound_83 rfl rfl ?_
              refine fX5_23 (pc := 84) hF dX5_bestRound_84 h0 (fun b72 => ?_)
              obtain ⟨m73, x74, q75, h⟩ := gCl_some h
              refine r_callVN (kd := 0) (pc := 87) [] (tX0_orderAsNumber _ _ _ hF _ _ _ q75 b72) ⟨rfl, rfl⟩ cd_X0_orderAsNumber wX5_188 nm_X0_orderAsNumber rfl (by rw [hRm]; decide) rfl (Nat.le_of_ble_eq_true rfl) rfl (by decide) b72 dX5_bestRound_87 ?_
              refine r_istore_n (pc := 90) dX5_bestRound_90 rfl (by rw [hnL]; decide) rfl ?_
              refine r_iload (pc := 91) dX5_bestRound_91 rfl ?_
              refine r_istore_n (pc := 93) dX5_bestRound_93 rfl (by rw [hnL]; decide) rfl ?_
              exact r_mask [true, true, true, true, true, false] rfl (hJ53 _ _ _ h)
            · refine r_iload (pc := 77) dX5_bestRound_77 rfl ?_
              refine r_iload_n (pc := 79) dX5_bestRound_79 rfl rfl ?_
              refine r_icmp_ge (pc := 80) (tgt := 94) dX5_bestRound_80 (by decide) h (fun h => ?_) (fun h => ?_)
              · exact r_mask [true, true, true, true, true, false] rfl (hJ53 _ _ _ h)
              · refine r_aload_n (pc := 83) dX5_bestRound_83 rfl rfl ?_
                refine fX5_23 (pc := 84) hF dX5_bestRound_84 h0 (fun b76 => ?_)
                obtain ⟨m77, x78, q79, h⟩ := gCl_some h
                refine r_callVN (kd := 0) (pc := 87) [] (tX0_orderAsNumber _ _ _ hF _ _ _ q79 b76) ⟨rfl, rfl⟩ cd_X0_orderAsNumber wX5_188 nm_X0_orderAsNumber rfl (by rw [hRm]; decide) rfl (Nat.le_of_ble_eq_true rfl) rfl (by decide) b76 dX5_bestRound_87 ?_
                refine r_istore_n (pc := 90) dX5_bestRound_90 rfl (by rw [hnL]; decide) rfl ?_
                refine r_iload (pc := 91) dX5_bestRound_91 rfl ?_
                refine r_istore_n (pc := 93) dX5_bestRound_93 rfl (by rw [hnL]; decide) rfl ?_
                exact r_mask [true, true, true, true, true, false] rfl (hJ53 _ _ _ h)
  exact r_mask [true, true, true, true, true, false] rfl (L41 _ _ _ _ _ h)
set_option maxHeartbeats 4000000 in
set_option maxRecDepth 100000 in
theorem tX5_bestRoundT (l : Launch) (hlt : l.stackTraces = false) (G : gX) (u : gU) (hF : gFull u) (a0 : Nat) (p1 : Int32) (m : gM) (o : gM × Nat × Int32) (h : fX5_bestRound a0 p1 m = some o) (hz : o.2.1 ≠ 0) (h0 : gIn u a0 4 0) : gMetT l G u yX5_bestRound (.code yX5_bestRound cX5_bestRound 6 (some .int)) rmX5_bestRoundT [.ref a0, .int p1] m o.1 (gEn o.2.1) := by
  refine gMetT_of hlt (own := RX5) (k := 4) (by decide) rfl ⟨rfl, rfl⟩ (Nat.le_of_ble_eq_true rfl) [some (.ref a0), some (.int p1), none, none, none, none] rfl (fun Y hG hu hnL hLn hRm he => ?_)
  subst hG hu hLn
  unfold fX5_bestRound at h
  refine r_iload_n (pc := 0) dX5_bestRound_0 rfl rfl ?_
  refine r_iconst (pc := 1) (v := 1) dX5_bestRound_1 (by decide) ?_
  refine r_bipush (pc := 2) (v := 30) dX5_bestRound_2 (by decide) ?_
  obtain ⟨m80, x81, q82, h⟩ := gCl_some h
  refine r_callS (pc := 4) [.int _, .int _, .int _] (tX5_isWithin _ _ _ hF _ _ _ _ _ q82) ⟨rfl, rfl⟩ cd_X5_isWithin wX5_41 nm_X5_isWithin rfl (by rw [hRm]; decide) rfl (Nat.le_of_ble_eq_true rfl) dX5_bestRound_4 ?_
  rcases gDem_thr h with ⟨g83, eg83⟩ | ⟨g83, h⟩
  · subst eg83
    exact r_callST (pc := 7) [.int _] (tX5_demandArgumentT _ hlt _ _ _ _ g83) ⟨rfl, rfl⟩ cd_X5_demandArgument wX5_45 nm_X5_demandArgument rfl (by rw [hRm]; decide) rfl (Nat.le_of_ble_eq_true rfl) dX5_bestRound_7 he
  refine r_callS (pc := 7) [.int _] (tX5_demandArgument _ _ _ _ _ g83) ⟨rfl, rfl⟩ cd_X5_demandArgument wX5_45 nm_X5_demandArgument rfl (by rw [hRm]; decide) rfl (Nat.le_of_ble_eq_true rfl) dX5_bestRound_7 ?_
  refine r_iconst (pc := 10) (v := (-1)) dX5_bestRound_10 (by decide) ?_
  refine r_istore_n (pc := 11) dX5_bestRound_11 rfl (by rw [hnL]; decide) rfl ?_
  refine r_iconst (pc := 12) (v := 0) dX5_bestRound_12 (by decide) ?_
  refine r_istore_n (pc := 13) dX5_bestRound_13 rfl (by rw [hnL]; decide) rfl ?_
  refine r_iconst (pc := 14) (v := 0) dX5_bestRound_14 (by decide) ?_
  refine r_istore (pc := 15) dX5_bestRound_15 (by rw [hnL]; decide) rfl ?_
  have L120 : ∀ (n118 : Nat) (v121 : Int32) (v122 : Int32) (v123 : Int32) (m124 : gM), fX5_bestRound_L17 a0 p1 n118 v121 v122 v123 m124 = some o → AW Y cX5_bestRound RX5 17 [some (.ref a0), some (.int p1), some (.int v121), some (.int v122), some (.int v123), none] [] m124 := by
    intro n118
    induction n118 with
    | zero =>
      intro v121 v122 v123 m124 h
      exact absurd h (by simp [fX5_bestRound_L17])
    | succ n118 ih119 =>
      intro v121 v122 v123 m124 h
      rw [fX5_bestRound_L17] at h
      refine r_iload (pc := 17) dX5_bestRound_17 rfl ?_
      refine r_sipush (pc := 19) (v := 256) dX5_bestRound_19 (by decide) ?_
      refine r_icmp_ge (pc := 22) (tgt := 100) dX5_bestRound_22 (by decide) h (fun h => ?_) (fun h => ?_)
      · refine r_iload_n (pc := 100) dX5_bestRound_100 rfl rfl ?_
        cases h
        exact absurd rfl hz
      · refine r_iload (pc := 25) dX5_bestRound_25 rfl ?_
        obtain ⟨m125, x126, q127, h⟩ := gCl_some h
        refine r_callS (pc := 27) [.int _] (tX5_tellEachStreet _ _ _ hF _ _ _ q127) ⟨rfl, rfl⟩ cd_X5_tellEachStreet wX5_178 nm_X5_tellEachStreet rfl (by rw [hRm]; decide) rfl (Nat.le_of_ble_eq_true rfl) dX5_bestRound_27 ?_
        refine r_jnK h (fun (k131 : Int32 → Int32 → gM → Option (gM × Nat × Int32)) => ∀ (x128 : Int32) (x129 : Int32) (m130 : gM), k131 x128 x129 m130 = some o → AW Y cX5_bestRound RX5 94 [some (.ref a0), some (.int p1), some (.int x128), some (.int x129), some (.int v123), none] [] m130) (fun x128 x129 m130 h => ?_) (fun k131 hJ132 h => ?_)
        · refine r_iinc (pc := 94) (d := 1) dX5_bestRound_94 rfl (by decide) (by rw [hnL]; decide) h (fun x133 h => ?_)
          refine r_goto (pc := 97) (tgt := 17) dX5_bestRound_97 (by decide) ?_
          exact r_mask [true, true, true, true, true, false] rfl (ih119 _ _ _ _ h)
        · refine r_if_eq (pc := 30) (tgt := 94) dX5_bestRound_30 (by decide) h (fun h => ?_) (fun h => ?_)
          · exact r_mask [true, true, true, true, true, false] rfl (hJ132 _ _ _ h)
          · refine r_aload_n (pc := 33) dX5_bestRound_33 rfl rfl ?_
            refine fX5_23 (pc := 34) hF dX5_bestRound_34 h0 (fun b134 => ?_)
            refine r_aload_n (pc := 37) dX5_bestRound_37 rfl rfl ?_
            refine fX5_19 (pc := 38) hF dX5_bestRound_38 h0 (fun b135 => ?_)
            obtain ⟨m136, q138, h⟩ := gCv_some h
            refine r_callVN (kd := 0) (pc := 41) [.ref _] (tX0_copyFrom _ _ _ hF _ _ _ _ q138 b134 b135) ⟨rfl, rfl⟩ cd_X0_copyFrom wX5_160 nm_X0_copyFrom rfl (by rw [hRm]; decide) rfl (Nat.le_of_ble_eq_true rfl) rfl (by decide) b134 dX5_bestRound_41 ?_
            refine r_aload_n (pc := 44) dX5_bestRound_44 rfl rfl ?_
            refine fX5_23 (pc := 45) hF dX5_bestRound_45 h0 (fun b139 => ?_)
            refine r_iload (pc := 48) dX5_bestRound_48 rfl ?_
            obtain ⟨m140, q142, h⟩ := gCv_some h
            refine r_callVN (kd := 0) (pc := 50) [.int _] (tX0_takeOrder _ _ _ hF _ _ _ _ q142 b139) ⟨rfl, rfl⟩ cd_X0_takeOrder wX5_181 nm_X0_takeOrder rfl (by rw [hRm]; decide) rfl (Nat.le_of_ble_eq_true rfl) rfl (by decide) b139 dX5_bestRound_50 ?_
            refine r_aload_n (pc := 53) dX5_bestRound_53 rfl rfl ?_
            refine fX5_23 (pc := 54) hF dX5_bestRound_54 h0 (fun b143 => ?_)
            refine r_iload_n (pc := 57) dX5_bestRound_57 rfl rfl ?_
            obtain ⟨m144, x145, q146, h⟩ := gCl_some h
            refine r_callVN (kd := 0) (pc := 58) [.int _] (tX0_deliver _ _ _ hF _ _ _ _ q146 b143) ⟨rfl, rfl⟩ cd_X0_deliver wX5_164 nm_X0_deliver rfl (by rw [hRm]; decide) rfl (Nat.le_of_ble_eq_true rfl) rfl (by decide) b143 dX5_bestRound_58 ?_
            refine r_pop (pc := 61) dX5_bestRound_61 rfl ?_
            refine r_aload_n (pc := 62) dX5_bestRound_62 rfl rfl ?_
            refine fX5_23 (pc := 63) hF dX5_bestRound_63 h0 (fun b147 => ?_)
            refine r_iconst (pc := 66) (v := 2) dX5_bestRound_66 (by decide) ?_
            obtain ⟨m148, x149, q150, h⟩ := gCl_some h
            refine r_callVN (kd := 0) (pc := 67) [.int _] (tX0_sumOf _ _ _ hF _ _ _ _ q150 b147) ⟨rfl, rfl⟩ cd_X0_sumOf wX5_185 nm_X0_sumOf rfl (by rw [hRm]; decide) rfl (Nat.le_of_ble_eq_true rfl) rfl (by decide) b147 dX5_bestRound_67 ?_
            refine r_istore (pc := 70) dX5_bestRound_70 (by rw [hnL]; decide) rfl ?_
            refine r_iload_n (pc := 72) dX5_bestRound_72 rfl rfl ?_
            refine r_iconst (pc := 73) (v := (-1)) dX5_bestRound_73 (by decide) ?_
            refine r_icmp_eq (pc := 74) (tgt := 83) dX5_bestRound_74 (by decide) h (fun h => ?_) (fun h => ?_)
            · refine r_aload_n (pc := 83) dX5_bestRound_83 rfl rfl ?_
              refine fX5_23 (pc := 84) hF dX5_bestRound_84 h0 (fun b151 => ?_)
              obtain ⟨m152, x153, q154, h⟩ := gCl_some h
              refine r_callVN (kd := 0) (pc := 87) [] (tX0_orderAsNumber _ _ _ hF _ _ _ q154 b151) ⟨rfl, rfl⟩ cd_X0_orderAsNumber wX5_188 nm_X0_orderAsNumber rfl (by rw [hRm]; decide) rfl (Nat.le_of_ble_eq_true rfl) rfl (by decide) b151 dX5_bestRound_87 ?_
              refine r_istore_n (pc := 90) dX5_bestRound_90 rfl (by rw [hnL]; decide) rfl ?_
              refine r_iload (pc := 91) dX5_bestRound_91 rfl ?_
              refine r_istore_n (pc := 93) dX5_bestRound_93 rfl (by rw [hnL]; decide) rfl ?_
              exact r_mask [true, true, true, true, true, false] rfl (hJ132 _ _ _ h)
            · refine r_iload (pc := 77) dX5_bestRound_77 rfl ?_
              refine r_iload_n (pc := 79) dX5_bestRound_79 rfl rfl ?_
              refine r_icmp_ge (pc := 80) (tgt := 94) dX5_bestRound_80 (by decide) h (fun h => ?_) (fun h => ?_)
              · exact r_mask [true, true, true, true, true, false] rfl (hJ132 _ _ _ h)
              · refine r_aload_n (pc := 83) dX5_bestRound_83 rfl rfl ?_
                refine fX5_23 (pc := 84) hF dX5_bestRound_84 h0 (fun b155 => ?_)
                obtain ⟨m156, x157, q158, h⟩ := gCl_some h
                refine r_callVN (kd := 0) (pc := 87) [] (tX0_orderAsNumber _ _ _ hF _ _ _ q158 b155) ⟨rfl, rfl⟩ cd_X0_orderAsNumber wX5_188 nm_X0_orderAsNumber rfl (by rw [hRm]; decide) rfl (Nat.le_of_ble_eq_true rfl) rfl (by decide) b155 dX5_bestRound_87 ?_
                refine r_istore_n (pc := 90) dX5_bestRound_90 rfl (by rw [hnL]; decide) rfl ?_
                refine r_iload (pc := 91) dX5_bestRound_91 rfl ?_
                refine r_istore_n (pc := 93) dX5_bestRound_93 rfl (by rw [hnL]; decide) rfl ?_
                exact r_mask [true, true, true, true, true, false] rfl (hJ132 _ _ _ h)
  exact r_mask [true, true, true, true, true, false] rfl (L120 _ _ _ _ _ h)
set_option maxHeartbeats 4000000 in
set_option maxRecDepth 100000 in
theorem tX5_runScript (l : Launch) (G : gX) (u : gU) (hF : gFull u) (a0 : Nat) (p1 : Int32) (p2 : Int64) (m : gM) (o : gM × Nat × Int32) (h : fX5_runScript a0 p1 p2 m = some o) (hz : o.2.1 = 0) (h0 : gIn u a0 4 0) : gMet l G u yX5_runScript (.code yX5_runScript cX5_runScript 7 (some .int)) rmX5_runScript [.ref a0, .int p1, .long p2] m o.1 (some (.int o.2.2)) := by
  refine gMet_of (own := RX5) (k := 3) (by decide) rfl ⟨rfl, rfl⟩ (Nat.le_of_ble_eq_true rfl) [some (.ref a0), some (.int p1), some (.long p2), none, none, none, none] rfl (fun Y hG hu hnL hLn hRm he => ?_)
  subst hG hu hLn
  unfold fX5_runScript at h
  refine r_iload_n (pc := 0) dX5_runScript_0 rfl rfl ?_
  refine r_iconst (pc := 1) (v := 1) dX5_runScript_1 (by decide) ?_
  refine r_iconst (pc := 2) (v := 3) dX5_runScript_2 (by decide) ?_
  obtain ⟨m1, x2, q3, h⟩ := gCl_some h
  refine r_callS (pc := 3) [.int _, .int _, .int _] (tX5_isWithin _ _ _ hF _ _ _ _ _ q3) ⟨rfl, rfl⟩ cd_X5_isWithin wX5_41 nm_X5_isWithin rfl (by rw [hRm]; decide) rfl (Nat.le_of_ble_eq_true rfl) dX5_runScript_3 ?_
  obtain ⟨g4, h⟩ := gDem_ret (by decide) h hz
  refine r_callS (pc := 6) [.int _] (tX5_demandArgument _ _ _ _ _ g4) ⟨rfl, rfl⟩ cd_X5_demandArgument wX5_45 nm_X5_demandArgument rfl (by rw [hRm]; decide) rfl (Nat.le_of_ble_eq_true rfl) dX5_runScript_6 ?_
  refine r_lconst (pc := 9) (v := 1) dX5_runScript_9 (by decide) ?_
  refine r_lstore (pc := 10) dX5_runScript_10 (by rw [hnL]; decide) rfl ?_
  refine r_iconst (pc := 12) (v := 0) dX5_runScript_12 (by decide) ?_
  refine r_istore (pc := 13) dX5_runScript_13 (by rw [hnL]; decide) rfl ?_
  have L37 : ∀ (n35 : Nat) (v38 : Int64) (v39 : Int32) (m40 : gM), fX5_runScript_L15 a0 p1 p2 n35 v38 v39 m40 = some o → AW Y cX5_runScript RX5 15 [some (.ref a0), some (.int p1), some (.long p2), none, some (.long v38), none, some (.int v39)] [] m40 := by
    intro n35
    induction n35 with
    | zero =>
      intro v38 v39 m40 h
      exact absurd h (by simp [fX5_runScript_L15])
    | succ n35 ih36 =>
      intro v38 v39 m40 h
      rw [fX5_runScript_L15] at h
      refine r_iload (pc := 15) dX5_runScript_15 rfl ?_
      refine r_iload_n (pc := 17) dX5_runScript_17 rfl rfl ?_
      refine r_icmp_ge (pc := 18) (tgt := 35) dX5_runScript_18 (by decide) h (fun h => ?_) (fun h => ?_)
      · refine r_lload_n (pc := 35) dX5_runScript_35 rfl rfl ?_
        refine r_lconst (pc := 36) (v := 0) dX5_runScript_36 (by decide) ?_
        refine r_lcmp (pc := 37) dX5_runScript_37 ?_
        refine r_jn1 h (fun x41 => AW Y cX5_runScript RX5 53 [some (.ref a0), some (.int p1), some (.long p2), none, none, none, none] [.int x41] m40) (fun x41 h => ?_) (fun hJ42 => ?_)
        · obtain ⟨g45, h⟩ := gDem_ret (by decide) h hz
          refine r_callS (pc := 53) [.int _] (tX5_demandArgument _ _ _ _ _ g45) ⟨rfl, rfl⟩ cd_X5_demandArgument wX5_45 nm_X5_demandArgument rfl (by rw [hRm]; decide) rfl (Nat.le_of_ble_eq_true rfl) dX5_runScript_53 ?_
          refine r_aload_n (pc := 56) dX5_runScript_56 rfl rfl ?_
          refine fX5_23 (pc := 57) hF dX5_runScript_57 h0 (fun b46 => ?_)
          refine r_aload_n (pc := 60) dX5_runScript_60 rfl rfl ?_
          refine fX5_19 (pc := 61) hF dX5_runScript_61 h0 (fun b47 => ?_)
          obtain ⟨m48, q50, h⟩ := gCv_some h
          refine r_callVN (kd := 0) (pc := 64) [.ref _] (tX0_copyFrom _ _ _ hF _ _ _ _ q50 b46 b47) ⟨rfl, rfl⟩ cd_X0_copyFrom wX5_160 nm_X0_copyFrom rfl (by rw [hRm]; decide) rfl (Nat.le_of_ble_eq_true rfl) rfl (by decide) b46 dX5_runScript_64 ?_
          refine r_iconst (pc := 67) (v := 0) dX5_runScript_67 (by decide) ?_
          refine r_istore (pc := 68) dX5_runScript_68 (by rw [hnL]; decide) rfl ?_
          have L53 : ∀ (n51 : Nat) (v54 : Int32) (m55 : gM), fX5_runScript_L70 a0 p1 p2 (fX5_runScript_L15 a0 p1 p2 n35) n51 v54 m55 = some o → AW Y cX5_runScript RX5 70 [some (.ref a0), some (.int p1), some (.long p2), none, none, none, some (.int v54)] [] m55 := by
            intro n51
            induction n51 with
            | zero =>
              intro v54 m55 h
              exact absurd h (by simp [fX5_runScript_L70])
            | succ n51 ih52 =>
              intro v54 m55 h
              rw [fX5_runScript_L70] at h
              refine r_iload (pc := 70) dX5_runScript_70 rfl ?_
              refine r_iload_n (pc := 72) dX5_runScript_72 rfl rfl ?_
              refine r_icmp_ge (pc := 73) (tgt := 102) dX5_runScript_73 (by decide) h (fun h => ?_) (fun h => ?_)
              · refine r_iconst (pc := 102) (v := (-1)) dX5_runScript_102 (by decide) ?_
                exact r_iretX dX5_runScript_103 h he
              · refine r_aload_n (pc := 76) dX5_runScript_76 rfl rfl ?_
                refine r_lload_n (pc := 77) dX5_runScript_77 rfl rfl ?_
                refine r_iload_n (pc := 78) dX5_runScript_78 rfl rfl ?_
                refine r_iconst (pc := 79) (v := 1) dX5_runScript_79 (by decide) ?_
                refine r_isub (pc := 80) dX5_runScript_80 ?_
                refine r_iload (pc := 81) dX5_runScript_81 rfl ?_
                refine r_isub (pc := 83) dX5_runScript_83 ?_
                obtain ⟨m56, x57, q58, h⟩ := gCl_some h
                refine r_callS (pc := 84) [.long _, .int _] (tX5_groupOf _ _ _ hF _ _ _ _ q58) ⟨rfl, rfl⟩ cd_X5_groupOf wX5_193 nm_X5_groupOf rfl (by rw [hRm]; decide) rfl (Nat.le_of_ble_eq_true rfl) dX5_runScript_84 ?_
                obtain ⟨m59, x60, q61, h⟩ := gCl_some h
                refine r_callV (kd := 4) (pc := 87) [.int _] (tX5_succeeds _ _ _ hF _ _ _ _ q61 h0) ⟨rfl, rfl⟩ cd_X5_succeeds wX5_197 nm_X5_succeeds rfl (by rw [hRm]; decide) rfl (Nat.le_of_ble_eq_true rfl) rfl (by decide) h0 dX5_runScript_87 ?_
                refine r_if_ne (pc := 90) (tgt := 96) dX5_runScript_90 (by decide) h (fun h => ?_) (fun h => ?_)
                · refine r_iinc (pc := 96) (d := 1) dX5_runScript_96 rfl (by decide) (by rw [hnL]; decide) h (fun x62 h => ?_)
                  refine r_goto (pc := 99) (tgt := 70) dX5_runScript_99 (by decide) ?_
                  exact r_mask [true, true, true, false, false, false, true] rfl (ih52 _ _ h)
                · refine r_iload (pc := 93) dX5_runScript_93 rfl ?_
                  exact r_iretX dX5_runScript_95 h he
          exact r_mask [true, true, true, false, false, false, true] rfl (L53 _ _ _ h)
        · refine r_ifC_lt (pc := 38) (tgt := 52) dX5_runScript_38 (by decide) (fun g43 => ?_) (fun g43 => ?_)
          · refine r_iconst (pc := 52) (v := 0) dX5_runScript_52 (by decide) ?_
            exact r_mask [true, true, true, false, false, false, false] rfl (hJ42 _ (by rw [if_pos g43]))
          · refine r_lload_n (pc := 41) dX5_runScript_41 rfl rfl ?_
            refine r_lload (pc := 42) dX5_runScript_42 rfl ?_
            refine r_lcmp (pc := 44) dX5_runScript_44 ?_
            refine r_ifC_ge (pc := 45) (tgt := 52) dX5_runScript_45 (by decide) (fun g44 => ?_) (fun g44 => ?_)
            · refine r_iconst (pc := 52) (v := 0) dX5_runScript_52 (by decide) ?_
              exact r_mask [true, true, true, false, false, false, false] rfl (hJ42 _ (by rw [if_neg g43, if_pos g44]))
            · refine r_iconst (pc := 48) (v := 1) dX5_runScript_48 (by decide) ?_
              refine r_goto (pc := 49) (tgt := 53) dX5_runScript_49 (by decide) ?_
              exact r_mask [true, true, true, false, false, false, false] rfl (hJ42 _ (by rw [if_neg g43, if_neg g44]))
      · refine r_lload (pc := 21) dX5_runScript_21 rfl ?_
        refine r_ldc2 (pc := 23) (v := 1000000) dX5_runScript_23 cX5_191 ?_
        refine r_lmul (pc := 26) dX5_runScript_26 ?_
        refine r_lstore (pc := 27) dX5_runScript_27 (by rw [hnL]; decide) rfl ?_
        refine r_iinc (pc := 29) (d := 1) dX5_runScript_29 rfl (by decide) (by rw [hnL]; decide) h (fun x63 h => ?_)
        refine r_goto (pc := 32) (tgt := 15) dX5_runScript_32 (by decide) ?_
        exact r_mask [true, true, true, false, true, false, true] rfl (ih36 _ _ _ h)
  exact r_mask [true, true, true, false, true, false, true] rfl (L37 _ _ _ _ h)
set_option maxHeartbeats 4000000 in
set_option maxRecDepth 100000 in
theorem tX5_runScriptT (l : Launch) (hlt : l.stackTraces = false) (G : gX) (u : gU) (hF : gFull u) (a0 : Nat) (p1 : Int32) (p2 : Int64) (m : gM) (o : gM × Nat × Int32) (h : fX5_runScript a0 p1 p2 m = some o) (hz : o.2.1 ≠ 0) (h0 : gIn u a0 4 0) : gMetT l G u yX5_runScript (.code yX5_runScript cX5_runScript 7 (some .int)) rmX5_runScriptT [.ref a0, .int p1, .long p2] m o.1 (gEn o.2.1) := by
  refine gMetT_of hlt (own := RX5) (k := 3) (by decide) rfl ⟨rfl, rfl⟩ (Nat.le_of_ble_eq_true rfl) [some (.ref a0), some (.int p1), some (.long p2), none, none, none, none] rfl (fun Y hG hu hnL hLn hRm he => ?_)
  subst hG hu hLn
  unfold fX5_runScript at h
  refine r_iload_n (pc := 0) dX5_runScript_0 rfl rfl ?_
  refine r_iconst (pc := 1) (v := 1) dX5_runScript_1 (by decide) ?_
  refine r_iconst (pc := 2) (v := 3) dX5_runScript_2 (by decide) ?_
  obtain ⟨m64, x65, q66, h⟩ := gCl_some h
  refine r_callS (pc := 3) [.int _, .int _, .int _] (tX5_isWithin _ _ _ hF _ _ _ _ _ q66) ⟨rfl, rfl⟩ cd_X5_isWithin wX5_41 nm_X5_isWithin rfl (by rw [hRm]; decide) rfl (Nat.le_of_ble_eq_true rfl) dX5_runScript_3 ?_
  rcases gDem_thr h with ⟨g67, eg67⟩ | ⟨g67, h⟩
  · subst eg67
    exact r_callST (pc := 6) [.int _] (tX5_demandArgumentT _ hlt _ _ _ _ g67) ⟨rfl, rfl⟩ cd_X5_demandArgument wX5_45 nm_X5_demandArgument rfl (by rw [hRm]; decide) rfl (Nat.le_of_ble_eq_true rfl) dX5_runScript_6 he
  refine r_callS (pc := 6) [.int _] (tX5_demandArgument _ _ _ _ _ g67) ⟨rfl, rfl⟩ cd_X5_demandArgument wX5_45 nm_X5_demandArgument rfl (by rw [hRm]; decide) rfl (Nat.le_of_ble_eq_true rfl) dX5_runScript_6 ?_
  refine r_lconst (pc := 9) (v := 1) dX5_runScript_9 (by decide) ?_
  refine r_lstore (pc := 10) dX5_runScript_10 (by rw [hnL]; decide) rfl ?_
  refine r_iconst (pc := 12) (v := 0) dX5_runScript_12 (by decide) ?_
  refine r_istore (pc := 13) dX5_runScript_13 (by rw [hnL]; decide) rfl ?_
  have L100 : ∀ (n98 : Nat) (v101 : Int64) (v102 : Int32) (m103 : gM), fX5_runScript_L15 a0 p1 p2 n98 v101 v102 m103 = some o → AW Y cX5_runScript RX5 15 [some (.ref a0), some (.int p1), some (.long p2), none, some (.long v101), none, some (.int v102)] [] m103 := by
    intro n98
    induction n98 with
    | zero =>
      intro v101 v102 m103 h
      exact absurd h (by simp [fX5_runScript_L15])
    | succ n98 ih99 =>
      intro v101 v102 m103 h
      rw [fX5_runScript_L15] at h
      refine r_iload (pc := 15) dX5_runScript_15 rfl ?_
      refine r_iload_n (pc := 17) dX5_runScript_17 rfl rfl ?_
      refine r_icmp_ge (pc := 18) (tgt := 35) dX5_runScript_18 (by decide) h (fun h => ?_) (fun h => ?_)
      · refine r_lload_n (pc := 35) dX5_runScript_35 rfl rfl ?_
        refine r_lconst (pc := 36) (v := 0) dX5_runScript_36 (by decide) ?_
        refine r_lcmp (pc := 37) dX5_runScript_37 ?_
        refine r_jn1 h (fun x104 => AW Y cX5_runScript RX5 53 [some (.ref a0), some (.int p1), some (.long p2), none, none, none, none] [.int x104] m103) (fun x104 h => ?_) (fun hJ105 => ?_)
        · rcases gDem_thr h with ⟨g108, eg108⟩ | ⟨g108, h⟩
          · subst eg108
            exact r_callST (pc := 53) [.int _] (tX5_demandArgumentT _ hlt _ _ _ _ g108) ⟨rfl, rfl⟩ cd_X5_demandArgument wX5_45 nm_X5_demandArgument rfl (by rw [hRm]; decide) rfl (Nat.le_of_ble_eq_true rfl) dX5_runScript_53 he
          refine r_callS (pc := 53) [.int _] (tX5_demandArgument _ _ _ _ _ g108) ⟨rfl, rfl⟩ cd_X5_demandArgument wX5_45 nm_X5_demandArgument rfl (by rw [hRm]; decide) rfl (Nat.le_of_ble_eq_true rfl) dX5_runScript_53 ?_
          refine r_aload_n (pc := 56) dX5_runScript_56 rfl rfl ?_
          refine fX5_23 (pc := 57) hF dX5_runScript_57 h0 (fun b109 => ?_)
          refine r_aload_n (pc := 60) dX5_runScript_60 rfl rfl ?_
          refine fX5_19 (pc := 61) hF dX5_runScript_61 h0 (fun b110 => ?_)
          obtain ⟨m111, q113, h⟩ := gCv_some h
          refine r_callVN (kd := 0) (pc := 64) [.ref _] (tX0_copyFrom _ _ _ hF _ _ _ _ q113 b109 b110) ⟨rfl, rfl⟩ cd_X0_copyFrom wX5_160 nm_X0_copyFrom rfl (by rw [hRm]; decide) rfl (Nat.le_of_ble_eq_true rfl) rfl (by decide) b109 dX5_runScript_64 ?_
          refine r_iconst (pc := 67) (v := 0) dX5_runScript_67 (by decide) ?_
          refine r_istore (pc := 68) dX5_runScript_68 (by rw [hnL]; decide) rfl ?_
          have L116 : ∀ (n114 : Nat) (v117 : Int32) (m118 : gM), fX5_runScript_L70 a0 p1 p2 (fX5_runScript_L15 a0 p1 p2 n98) n114 v117 m118 = some o → AW Y cX5_runScript RX5 70 [some (.ref a0), some (.int p1), some (.long p2), none, none, none, some (.int v117)] [] m118 := by
            intro n114
            induction n114 with
            | zero =>
              intro v117 m118 h
              exact absurd h (by simp [fX5_runScript_L70])
            | succ n114 ih115 =>
              intro v117 m118 h
              rw [fX5_runScript_L70] at h
              refine r_iload (pc := 70) dX5_runScript_70 rfl ?_
              refine r_iload_n (pc := 72) dX5_runScript_72 rfl rfl ?_
              refine r_icmp_ge (pc := 73) (tgt := 102) dX5_runScript_73 (by decide) h (fun h => ?_) (fun h => ?_)
              · refine r_iconst (pc := 102) (v := (-1)) dX5_runScript_102 (by decide) ?_
                cases h
                exact absurd rfl hz
              · refine r_aload_n (pc := 76) dX5_runScript_76 rfl rfl ?_
                refine r_lload_n (pc := 77) dX5_runScript_77 rfl rfl ?_
                refine r_iload_n (pc := 78) dX5_runScript_78 rfl rfl ?_
                refine r_iconst (pc := 79) (v := 1) dX5_runScript_79 (by decide) ?_
                refine r_isub (pc := 80) dX5_runScript_80 ?_
                refine r_iload (pc := 81) dX5_runScript_81 rfl ?_
                refine r_isub (pc := 83) dX5_runScript_83 ?_
                obtain ⟨m119, x120, q121, h⟩ := gCl_some h
                refine r_callS (pc := 84) [.long _, .int _] (tX5_groupOf _ _ _ hF _ _ _ _ q121) ⟨rfl, rfl⟩ cd_X5_groupOf wX5_193 nm_X5_groupOf rfl (by rw [hRm]; decide) rfl (Nat.le_of_ble_eq_true rfl) dX5_runScript_84 ?_
                obtain ⟨m122, x123, q124, h⟩ := gCl_some h
                refine r_callV (kd := 4) (pc := 87) [.int _] (tX5_succeeds _ _ _ hF _ _ _ _ q124 h0) ⟨rfl, rfl⟩ cd_X5_succeeds wX5_197 nm_X5_succeeds rfl (by rw [hRm]; decide) rfl (Nat.le_of_ble_eq_true rfl) rfl (by decide) h0 dX5_runScript_87 ?_
                refine r_if_ne (pc := 90) (tgt := 96) dX5_runScript_90 (by decide) h (fun h => ?_) (fun h => ?_)
                · refine r_iinc (pc := 96) (d := 1) dX5_runScript_96 rfl (by decide) (by rw [hnL]; decide) h (fun x125 h => ?_)
                  refine r_goto (pc := 99) (tgt := 70) dX5_runScript_99 (by decide) ?_
                  exact r_mask [true, true, true, false, false, false, true] rfl (ih115 _ _ h)
                · refine r_iload (pc := 93) dX5_runScript_93 rfl ?_
                  cases h
                  exact absurd rfl hz
          exact r_mask [true, true, true, false, false, false, true] rfl (L116 _ _ _ h)
        · refine r_ifC_lt (pc := 38) (tgt := 52) dX5_runScript_38 (by decide) (fun g106 => ?_) (fun g106 => ?_)
          · refine r_iconst (pc := 52) (v := 0) dX5_runScript_52 (by decide) ?_
            exact r_mask [true, true, true, false, false, false, false] rfl (hJ105 _ (by rw [if_pos g106]))
          · refine r_lload_n (pc := 41) dX5_runScript_41 rfl rfl ?_
            refine r_lload (pc := 42) dX5_runScript_42 rfl ?_
            refine r_lcmp (pc := 44) dX5_runScript_44 ?_
            refine r_ifC_ge (pc := 45) (tgt := 52) dX5_runScript_45 (by decide) (fun g107 => ?_) (fun g107 => ?_)
            · refine r_iconst (pc := 52) (v := 0) dX5_runScript_52 (by decide) ?_
              exact r_mask [true, true, true, false, false, false, false] rfl (hJ105 _ (by rw [if_neg g106, if_pos g107]))
            · refine r_iconst (pc := 48) (v := 1) dX5_runScript_48 (by decide) ?_
              refine r_goto (pc := 49) (tgt := 53) dX5_runScript_49 (by decide) ?_
              exact r_mask [true, true, true, false, false, false, false] rfl (hJ105 _ (by rw [if_neg g106, if_neg g107]))
      · refine r_lload (pc := 21) dX5_runScript_21 rfl ?_
        refine r_ldc2 (pc := 23) (v := 1000000) dX5_runScript_23 cX5_191 ?_
        refine r_lmul (pc := 26) dX5_runScript_26 ?_
        refine r_lstore (pc := 27) dX5_runScript_27 (by rw [hnL]; decide) rfl ?_
        refine r_iinc (pc := 29) (d := 1) dX5_runScript_29 rfl (by decide) (by rw [hnL]; decide) h (fun x126 h => ?_)
        refine r_goto (pc := 32) (tgt := 15) dX5_runScript_32 (by decide) ?_
        exact r_mask [true, true, true, false, true, false, true] rfl (ih99 _ _ _ h)
  exact r_mask [true, true, true, false, true, false, true] rfl (L100 _ _ _ _ h)
set_option maxHeartbeats 4000000 in
set_option maxRecDepth 100000 in
theorem tX5_simulate (l : Launch) (G : gX) (u : gU) (hF : gFull u) (a0 : Nat) (p1 : Int64) (p2 : Int32) (m : gM) (o : gM × Nat × Int32) (h : fX5_simulate a0 p1 p2 m = some o) (hz : o.2.1 = 0) (h0 : gIn u a0 4 0) : gMet l G u yX5_simulate (.code yX5_simulate cX5_simulate 7 (some .int)) rmX5_simulate [.ref a0, .long p1, .int p2] m o.1 (some (.int o.2.2)) := by
  refine gMet_of (own := RX5) (k := 3) (by decide) rfl ⟨rfl, rfl⟩ (Nat.le_of_ble_eq_true rfl) [some (.ref a0), some (.long p1), none, some (.int p2), none, none, none] rfl (fun Y hG hu hnL hLn hRm he => ?_)
  subst hG hu hLn
  unfold fX5_simulate at h
  refine r_iload_n (pc := 0) dX5_simulate_0 rfl rfl ?_
  refine r_iconst (pc := 1) (v := 1) dX5_simulate_1 (by decide) ?_
  refine r_bipush (pc := 2) (v := 60) dX5_simulate_2 (by decide) ?_
  obtain ⟨m1, x2, q3, h⟩ := gCl_some h
  refine r_callS (pc := 4) [.int _, .int _, .int _] (tX5_isWithin _ _ _ hF _ _ _ _ _ q3) ⟨rfl, rfl⟩ cd_X5_isWithin wX5_41 nm_X5_isWithin rfl (by rw [hRm]; decide) rfl (Nat.le_of_ble_eq_true rfl) dX5_simulate_4 ?_
  obtain ⟨g4, h⟩ := gDem_ret (by decide) h hz
  refine r_callS (pc := 7) [.int _] (tX5_demandArgument _ _ _ _ _ g4) ⟨rfl, rfl⟩ cd_X5_demandArgument wX5_45 nm_X5_demandArgument rfl (by rw [hRm]; decide) rfl (Nat.le_of_ble_eq_true rfl) dX5_simulate_7 ?_
  refine r_aload_n (pc := 10) dX5_simulate_10 rfl rfl ?_
  refine fX5_23 (pc := 11) hF dX5_simulate_11 h0 (fun b5 => ?_)
  refine r_aload_n (pc := 14) dX5_simulate_14 rfl rfl ?_
  refine fX5_19 (pc := 15) hF dX5_simulate_15 h0 (fun b6 => ?_)
  obtain ⟨m7, q9, h⟩ := gCv_some h
  refine r_callVN (kd := 0) (pc := 18) [.ref _] (tX0_copyFrom _ _ _ hF _ _ _ _ q9 b5 b6) ⟨rfl, rfl⟩ cd_X0_copyFrom wX5_160 nm_X0_copyFrom rfl (by rw [hRm]; decide) rfl (Nat.le_of_ble_eq_true rfl) rfl (by decide) b5 dX5_simulate_18 ?_
  refine r_lload_n (pc := 21) dX5_simulate_21 rfl rfl ?_
  refine r_lstore (pc := 22) dX5_simulate_22 (by rw [hnL]; decide) rfl ?_
  refine r_iconst (pc := 24) (v := 0) dX5_simulate_24 (by decide) ?_
  refine r_istore (pc := 25) dX5_simulate_25 (by rw [hnL]; decide) rfl ?_
  have L29 : ∀ (n27 : Nat) (v30 : Int64) (v31 : Int32) (m32 : gM), fX5_simulate_L27 a0 p2 n27 v30 v31 m32 = some o → AW Y cX5_simulate RX5 27 [some (.ref a0), none, none, some (.int p2), some (.long v30), none, some (.int v31)] [] m32 := by
    intro n27
    induction n27 with
    | zero =>
      intro v30 v31 m32 h
      exact absurd h (by simp [fX5_simulate_L27])
    | succ n27 ih28 =>
      intro v30 v31 m32 h
      rw [fX5_simulate_L27] at h
      refine r_iload (pc := 27) dX5_simulate_27 rfl ?_
      refine r_iload_n (pc := 29) dX5_simulate_29 rfl rfl ?_
      refine r_icmp_ge (pc := 30) (tgt := 61) dX5_simulate_30 (by decide) h (fun h => ?_) (fun h => ?_)
      · refine r_aload_n (pc := 61) dX5_simulate_61 rfl rfl ?_
        refine fX5_23 (pc := 62) hF dX5_simulate_62 h0 (fun b33 => ?_)
        refine r_iconst (pc := 65) (v := 3) dX5_simulate_65 (by decide) ?_
        obtain ⟨m34, x35, q36, h⟩ := gCl_some h
        refine r_callVN (kd := 0) (pc := 66) [.int _] (tX0_sumOf _ _ _ hF _ _ _ _ q36 b33) ⟨rfl, rfl⟩ cd_X0_sumOf wX5_185 nm_X0_sumOf rfl (by rw [hRm]; decide) rfl (Nat.le_of_ble_eq_true rfl) rfl (by decide) b33 dX5_simulate_66 ?_
        refine r_aload_n (pc := 69) dX5_simulate_69 rfl rfl ?_
        refine fX5_19 (pc := 70) hF dX5_simulate_70 h0 (fun b37 => ?_)
        refine r_iconst (pc := 73) (v := 3) dX5_simulate_73 (by decide) ?_
        obtain ⟨m38, x39, q40, h⟩ := gCl_some h
        refine r_callVN (kd := 0) (pc := 74) [.int _] (tX0_sumOf _ _ _ hF _ _ _ _ q40 b37) ⟨rfl, rfl⟩ cd_X0_sumOf wX5_185 nm_X0_sumOf rfl (by rw [hRm]; decide) rfl (Nat.le_of_ble_eq_true rfl) rfl (by decide) b37 dX5_simulate_74 ?_
        refine r_isub (pc := 77) dX5_simulate_77 ?_
        refine r_istoreL (pc := 78) dX5_simulate_78 (by rw [hnL]; decide) h (fun x41 h => ?_)
        refine r_sipush (pc := 80) (v := 1000) dX5_simulate_80 (by decide) ?_
        refine r_iload (pc := 83) dX5_simulate_83 rfl ?_
        refine r_sipush (pc := 85) (v := 1000) dX5_simulate_85 (by decide) ?_
        refine r_iremc (pc := 88) dX5_simulate_88 (by decide) ?_
        refine r_imul (pc := 89) dX5_simulate_89 ?_
        refine r_aload_n (pc := 90) dX5_simulate_90 rfl rfl ?_
        refine fX5_23 (pc := 91) hF dX5_simulate_91 h0 (fun b42 => ?_)
        refine r_iconst (pc := 94) (v := 2) dX5_simulate_94 (by decide) ?_
        obtain ⟨m43, x44, q45, h⟩ := gCl_some h
        refine r_callVN (kd := 0) (pc := 95) [.int _] (tX0_sumOf _ _ _ hF _ _ _ _ q45 b42) ⟨rfl, rfl⟩ cd_X0_sumOf wX5_185 nm_X0_sumOf rfl (by rw [hRm]; decide) rfl (Nat.le_of_ble_eq_true rfl) rfl (by decide) b42 dX5_simulate_95 ?_
        refine r_iadd (pc := 98) dX5_simulate_98 ?_
        exact r_iretX dX5_simulate_99 h he
      · refine r_lload (pc := 33) dX5_simulate_33 rfl ?_
        refine r_ldc2 (pc := 35) (v := 6364136223846793005) dX5_simulate_35 cX5_200 ?_
        refine r_lmul (pc := 38) dX5_simulate_38 ?_
        refine r_ldc2 (pc := 39) (v := 1442695040888963407) dX5_simulate_39 cX5_202 ?_
        refine r_ladd (pc := 42) dX5_simulate_42 ?_
        refine r_lstore (pc := 43) dX5_simulate_43 (by rw [hnL]; decide) rfl ?_
        refine r_aload_n (pc := 45) dX5_simulate_45 rfl rfl ?_
        refine r_lload (pc := 46) dX5_simulate_46 rfl ?_
        refine r_bipush (pc := 48) (v := 33) dX5_simulate_48 (by decide) ?_
        refine r_lushr (pc := 50) dX5_simulate_50 ?_
        refine r_l2i (pc := 51) dX5_simulate_51 ?_
        obtain ⟨m46, q48, h⟩ := gCv_some h
        refine r_callV (kd := 4) (pc := 52) [.int _] (tX5_takeTurn _ _ _ hF _ _ _ _ q48 h0) ⟨rfl, rfl⟩ cd_X5_takeTurn wX5_204 nm_X5_takeTurn rfl (by rw [hRm]; decide) rfl (Nat.le_of_ble_eq_true rfl) rfl (by decide) h0 dX5_simulate_52 ?_
        refine r_iinc (pc := 55) (d := 1) dX5_simulate_55 rfl (by decide) (by rw [hnL]; decide) h (fun x49 h => ?_)
        refine r_goto (pc := 58) (tgt := 27) dX5_simulate_58 (by decide) ?_
        exact r_mask [true, false, false, true, true, false, true] rfl (ih28 _ _ _ h)
  exact r_mask [true, false, false, true, true, false, true] rfl (L29 _ _ _ _ h)
set_option maxHeartbeats 4000000 in
set_option maxRecDepth 100000 in
theorem tX5_simulateT (l : Launch) (hlt : l.stackTraces = false) (G : gX) (u : gU) (hF : gFull u) (a0 : Nat) (p1 : Int64) (p2 : Int32) (m : gM) (o : gM × Nat × Int32) (h : fX5_simulate a0 p1 p2 m = some o) (hz : o.2.1 ≠ 0) (h0 : gIn u a0 4 0) : gMetT l G u yX5_simulate (.code yX5_simulate cX5_simulate 7 (some .int)) rmX5_simulateT [.ref a0, .long p1, .int p2] m o.1 (gEn o.2.1) := by
  refine gMetT_of hlt (own := RX5) (k := 3) (by decide) rfl ⟨rfl, rfl⟩ (Nat.le_of_ble_eq_true rfl) [some (.ref a0), some (.long p1), none, some (.int p2), none, none, none] rfl (fun Y hG hu hnL hLn hRm he => ?_)
  subst hG hu hLn
  unfold fX5_simulate at h
  refine r_iload_n (pc := 0) dX5_simulate_0 rfl rfl ?_
  refine r_iconst (pc := 1) (v := 1) dX5_simulate_1 (by decide) ?_
  refine r_bipush (pc := 2) (v := 60) dX5_simulate_2 (by decide) ?_
  obtain ⟨m50, x51, q52, h⟩ := gCl_some h
  refine r_callS (pc := 4) [.int _, .int _, .int _] (tX5_isWithin _ _ _ hF _ _ _ _ _ q52) ⟨rfl, rfl⟩ cd_X5_isWithin wX5_41 nm_X5_isWithin rfl (by rw [hRm]; decide) rfl (Nat.le_of_ble_eq_true rfl) dX5_simulate_4 ?_
  rcases gDem_thr h with ⟨g53, eg53⟩ | ⟨g53, h⟩
  · subst eg53
    exact r_callST (pc := 7) [.int _] (tX5_demandArgumentT _ hlt _ _ _ _ g53) ⟨rfl, rfl⟩ cd_X5_demandArgument wX5_45 nm_X5_demandArgument rfl (by rw [hRm]; decide) rfl (Nat.le_of_ble_eq_true rfl) dX5_simulate_7 he
  refine r_callS (pc := 7) [.int _] (tX5_demandArgument _ _ _ _ _ g53) ⟨rfl, rfl⟩ cd_X5_demandArgument wX5_45 nm_X5_demandArgument rfl (by rw [hRm]; decide) rfl (Nat.le_of_ble_eq_true rfl) dX5_simulate_7 ?_
  refine r_aload_n (pc := 10) dX5_simulate_10 rfl rfl ?_
  refine fX5_23 (pc := 11) hF dX5_simulate_11 h0 (fun b54 => ?_)
  refine r_aload_n (pc := 14) dX5_simulate_14 rfl rfl ?_
  refine fX5_19 (pc := 15) hF dX5_simulate_15 h0 (fun b55 => ?_)
  obtain ⟨m56, q58, h⟩ := gCv_some h
  refine r_callVN (kd := 0) (pc := 18) [.ref _] (tX0_copyFrom _ _ _ hF _ _ _ _ q58 b54 b55) ⟨rfl, rfl⟩ cd_X0_copyFrom wX5_160 nm_X0_copyFrom rfl (by rw [hRm]; decide) rfl (Nat.le_of_ble_eq_true rfl) rfl (by decide) b54 dX5_simulate_18 ?_
  refine r_lload_n (pc := 21) dX5_simulate_21 rfl rfl ?_
  refine r_lstore (pc := 22) dX5_simulate_22 (by rw [hnL]; decide) rfl ?_
  refine r_iconst (pc := 24) (v := 0) dX5_simulate_24 (by decide) ?_
  refine r_istore (pc := 25) dX5_simulate_25 (by rw [hnL]; decide) rfl ?_
  have L78 : ∀ (n76 : Nat) (v79 : Int64) (v80 : Int32) (m81 : gM), fX5_simulate_L27 a0 p2 n76 v79 v80 m81 = some o → AW Y cX5_simulate RX5 27 [some (.ref a0), none, none, some (.int p2), some (.long v79), none, some (.int v80)] [] m81 := by
    intro n76
    induction n76 with
    | zero =>
      intro v79 v80 m81 h
      exact absurd h (by simp [fX5_simulate_L27])
    | succ n76 ih77 =>
      intro v79 v80 m81 h
      rw [fX5_simulate_L27] at h
      refine r_iload (pc := 27) dX5_simulate_27 rfl ?_
      refine r_iload_n (pc := 29) dX5_simulate_29 rfl rfl ?_
      refine r_icmp_ge (pc := 30) (tgt := 61) dX5_simulate_30 (by decide) h (fun h => ?_) (fun h => ?_)
      · refine r_aload_n (pc := 61) dX5_simulate_61 rfl rfl ?_
        refine fX5_23 (pc := 62) hF dX5_simulate_62 h0 (fun b82 => ?_)
        refine r_iconst (pc := 65) (v := 3) dX5_simulate_65 (by decide) ?_
        obtain ⟨m83, x84, q85, h⟩ := gCl_some h
        refine r_callVN (kd := 0) (pc := 66) [.int _] (tX0_sumOf _ _ _ hF _ _ _ _ q85 b82) ⟨rfl, rfl⟩ cd_X0_sumOf wX5_185 nm_X0_sumOf rfl (by rw [hRm]; decide) rfl (Nat.le_of_ble_eq_true rfl) rfl (by decide) b82 dX5_simulate_66 ?_
        refine r_aload_n (pc := 69) dX5_simulate_69 rfl rfl ?_
        refine fX5_19 (pc := 70) hF dX5_simulate_70 h0 (fun b86 => ?_)
        refine r_iconst (pc := 73) (v := 3) dX5_simulate_73 (by decide) ?_
        obtain ⟨m87, x88, q89, h⟩ := gCl_some h
        refine r_callVN (kd := 0) (pc := 74) [.int _] (tX0_sumOf _ _ _ hF _ _ _ _ q89 b86) ⟨rfl, rfl⟩ cd_X0_sumOf wX5_185 nm_X0_sumOf rfl (by rw [hRm]; decide) rfl (Nat.le_of_ble_eq_true rfl) rfl (by decide) b86 dX5_simulate_74 ?_
        refine r_isub (pc := 77) dX5_simulate_77 ?_
        refine r_istoreL (pc := 78) dX5_simulate_78 (by rw [hnL]; decide) h (fun x90 h => ?_)
        refine r_sipush (pc := 80) (v := 1000) dX5_simulate_80 (by decide) ?_
        refine r_iload (pc := 83) dX5_simulate_83 rfl ?_
        refine r_sipush (pc := 85) (v := 1000) dX5_simulate_85 (by decide) ?_
        refine r_iremc (pc := 88) dX5_simulate_88 (by decide) ?_
        refine r_imul (pc := 89) dX5_simulate_89 ?_
        refine r_aload_n (pc := 90) dX5_simulate_90 rfl rfl ?_
        refine fX5_23 (pc := 91) hF dX5_simulate_91 h0 (fun b91 => ?_)
        refine r_iconst (pc := 94) (v := 2) dX5_simulate_94 (by decide) ?_
        obtain ⟨m92, x93, q94, h⟩ := gCl_some h
        refine r_callVN (kd := 0) (pc := 95) [.int _] (tX0_sumOf _ _ _ hF _ _ _ _ q94 b91) ⟨rfl, rfl⟩ cd_X0_sumOf wX5_185 nm_X0_sumOf rfl (by rw [hRm]; decide) rfl (Nat.le_of_ble_eq_true rfl) rfl (by decide) b91 dX5_simulate_95 ?_
        refine r_iadd (pc := 98) dX5_simulate_98 ?_
        cases h
        exact absurd rfl hz
      · refine r_lload (pc := 33) dX5_simulate_33 rfl ?_
        refine r_ldc2 (pc := 35) (v := 6364136223846793005) dX5_simulate_35 cX5_200 ?_
        refine r_lmul (pc := 38) dX5_simulate_38 ?_
        refine r_ldc2 (pc := 39) (v := 1442695040888963407) dX5_simulate_39 cX5_202 ?_
        refine r_ladd (pc := 42) dX5_simulate_42 ?_
        refine r_lstore (pc := 43) dX5_simulate_43 (by rw [hnL]; decide) rfl ?_
        refine r_aload_n (pc := 45) dX5_simulate_45 rfl rfl ?_
        refine r_lload (pc := 46) dX5_simulate_46 rfl ?_
        refine r_bipush (pc := 48) (v := 33) dX5_simulate_48 (by decide) ?_
        refine r_lushr (pc := 50) dX5_simulate_50 ?_
        refine r_l2i (pc := 51) dX5_simulate_51 ?_
        obtain ⟨m95, q97, h⟩ := gCv_some h
        refine r_callV (kd := 4) (pc := 52) [.int _] (tX5_takeTurn _ _ _ hF _ _ _ _ q97 h0) ⟨rfl, rfl⟩ cd_X5_takeTurn wX5_204 nm_X5_takeTurn rfl (by rw [hRm]; decide) rfl (Nat.le_of_ble_eq_true rfl) rfl (by decide) h0 dX5_simulate_52 ?_
        refine r_iinc (pc := 55) (d := 1) dX5_simulate_55 rfl (by decide) (by rw [hnL]; decide) h (fun x98 h => ?_)
        refine r_goto (pc := 58) (tgt := 27) dX5_simulate_58 (by decide) ?_
        exact r_mask [true, false, false, true, true, false, true] rfl (ih77 _ _ _ h)
  exact r_mask [true, false, false, true, true, false, true] rfl (L78 _ _ _ _ h)
set_option maxHeartbeats 4000000 in
set_option maxRecDepth 100000 in
theorem tX5_save (l : Launch) (G : gX) (u : gU) (hF : gFull u) (a0 : Nat) (p1 : Int32) (m : gM) (o : gM × Nat × Int32) (h : fX5_save a0 p1 m = some o) (hz : o.2.1 = 0) (h0 : gIn u a0 4 0) : gMet l G u yX5_save (.code yX5_save cX5_save 2 (some .int)) rmX5_save [.ref a0, .int p1] m o.1 (some (.int o.2.2)) := by
  refine gMet_of (own := RX5) (k := 0) (by decide) rfl ⟨rfl, rfl⟩ (Nat.le_of_ble_eq_true rfl) [some (.ref a0), some (.int p1)] rfl (fun Y hG hu hnL hLn hRm he => ?_)
  subst hG hu hLn
  unfold fX5_save at h
  refine r_iload_n (pc := 0) dX5_save_0 rfl rfl ?_
  obtain ⟨m1, x2, q3, h⟩ := gCl_some h
  refine r_callS (pc := 1) [.int _] (tX5_isSlot _ _ _ hF _ _ _ q3) ⟨rfl, rfl⟩ cd_X5_isSlot wX5_207 nm_X5_isSlot rfl (by rw [hRm]; decide) rfl (Nat.le_of_ble_eq_true rfl) dX5_save_1 ?_
  obtain ⟨g4, h⟩ := gDem_ret (by decide) h hz
  refine r_callS (pc := 4) [.int _] (tX5_demandPlace _ _ _ _ _ g4) ⟨rfl, rfl⟩ cd_X5_demandPlace wX5_88 nm_X5_demandPlace rfl (by rw [hRm]; decide) rfl (Nat.le_of_ble_eq_true rfl) dX5_save_4 ?_
  refine r_aload_n (pc := 7) dX5_save_7 rfl rfl ?_
  refine fX5_33 (pc := 8) hF dX5_save_8 h0 (fun b5 => ?_)
  refine r_iload_n (pc := 11) dX5_save_11 rfl rfl ?_
  refine r_slots (pc := 12) hF dX5_save_12 b5 h (fun c6 b7 h => ?_)
  refine r_aload_n (pc := 13) dX5_save_13 rfl rfl ?_
  refine fX5_19 (pc := 14) hF dX5_save_14 h0 (fun b8 => ?_)
  obtain ⟨m9, q11, h⟩ := gCv_some h
  refine r_callVN (kd := 0) (pc := 17) [.ref _] (tX0_copyFrom _ _ _ hF _ _ _ _ q11 b7 b8) ⟨rfl, rfl⟩ cd_X0_copyFrom wX5_160 nm_X0_copyFrom rfl (by rw [hRm]; decide) rfl (Nat.le_of_ble_eq_true rfl) rfl (by decide) b7 dX5_save_17 ?_
  refine r_aload_n (pc := 20) dX5_save_20 rfl rfl ?_
  refine fX5_37 (pc := 21) hF dX5_save_21 h0 (fun b12 => ?_)
  refine r_iload_n (pc := 24) dX5_save_24 rfl rfl ?_
  refine r_iconst (pc := 25) (v := 1) dX5_save_25 (by decide) ?_
  refine r_zast (pc := 26) dX5_save_26 b12 h (fun m13 h => ?_)
  refine r_aload_n (pc := 27) dX5_save_27 rfl rfl ?_
  refine fX5_19 (pc := 28) hF dX5_save_28 h0 (fun b14 => ?_)
  refine fX5_95 (pc := 31) dX5_save_31 b14 h (fun x15 h => ?_)
  exact r_iretX dX5_save_34 h he
set_option maxHeartbeats 4000000 in
set_option maxRecDepth 100000 in
theorem tX5_saveT (l : Launch) (hlt : l.stackTraces = false) (G : gX) (u : gU) (hF : gFull u) (a0 : Nat) (p1 : Int32) (m : gM) (o : gM × Nat × Int32) (h : fX5_save a0 p1 m = some o) (hz : o.2.1 ≠ 0) (h0 : gIn u a0 4 0) : gMetT l G u yX5_save (.code yX5_save cX5_save 2 (some .int)) rmX5_saveT [.ref a0, .int p1] m o.1 (gEn o.2.1) := by
  refine gMetT_of hlt (own := RX5) (k := 0) (by decide) rfl ⟨rfl, rfl⟩ (Nat.le_of_ble_eq_true rfl) [some (.ref a0), some (.int p1)] rfl (fun Y hG hu hnL hLn hRm he => ?_)
  subst hG hu hLn
  unfold fX5_save at h
  refine r_iload_n (pc := 0) dX5_save_0 rfl rfl ?_
  obtain ⟨m16, x17, q18, h⟩ := gCl_some h
  refine r_callS (pc := 1) [.int _] (tX5_isSlot _ _ _ hF _ _ _ q18) ⟨rfl, rfl⟩ cd_X5_isSlot wX5_207 nm_X5_isSlot rfl (by rw [hRm]; decide) rfl (Nat.le_of_ble_eq_true rfl) dX5_save_1 ?_
  rcases gDem_thr h with ⟨g19, eg19⟩ | ⟨g19, h⟩
  · subst eg19
    exact r_callST (pc := 4) [.int _] (tX5_demandPlaceT _ hlt _ _ _ _ g19) ⟨rfl, rfl⟩ cd_X5_demandPlace wX5_88 nm_X5_demandPlace rfl (by rw [hRm]; decide) rfl (Nat.le_of_ble_eq_true rfl) dX5_save_4 he
  refine r_callS (pc := 4) [.int _] (tX5_demandPlace _ _ _ _ _ g19) ⟨rfl, rfl⟩ cd_X5_demandPlace wX5_88 nm_X5_demandPlace rfl (by rw [hRm]; decide) rfl (Nat.le_of_ble_eq_true rfl) dX5_save_4 ?_
  refine r_aload_n (pc := 7) dX5_save_7 rfl rfl ?_
  refine fX5_33 (pc := 8) hF dX5_save_8 h0 (fun b20 => ?_)
  refine r_iload_n (pc := 11) dX5_save_11 rfl rfl ?_
  refine r_slots (pc := 12) hF dX5_save_12 b20 h (fun c21 b22 h => ?_)
  refine r_aload_n (pc := 13) dX5_save_13 rfl rfl ?_
  refine fX5_19 (pc := 14) hF dX5_save_14 h0 (fun b23 => ?_)
  obtain ⟨m24, q26, h⟩ := gCv_some h
  refine r_callVN (kd := 0) (pc := 17) [.ref _] (tX0_copyFrom _ _ _ hF _ _ _ _ q26 b22 b23) ⟨rfl, rfl⟩ cd_X0_copyFrom wX5_160 nm_X0_copyFrom rfl (by rw [hRm]; decide) rfl (Nat.le_of_ble_eq_true rfl) rfl (by decide) b22 dX5_save_17 ?_
  refine r_aload_n (pc := 20) dX5_save_20 rfl rfl ?_
  refine fX5_37 (pc := 21) hF dX5_save_21 h0 (fun b27 => ?_)
  refine r_iload_n (pc := 24) dX5_save_24 rfl rfl ?_
  refine r_iconst (pc := 25) (v := 1) dX5_save_25 (by decide) ?_
  refine r_zast (pc := 26) dX5_save_26 b27 h (fun m28 h => ?_)
  refine r_aload_n (pc := 27) dX5_save_27 rfl rfl ?_
  refine fX5_19 (pc := 28) hF dX5_save_28 h0 (fun b29 => ?_)
  refine fX5_95 (pc := 31) dX5_save_31 b29 h (fun x30 h => ?_)
  cases h
  exact absurd rfl hz
set_option maxHeartbeats 4000000 in
set_option maxRecDepth 100000 in
theorem tX5_restore (l : Launch) (G : gX) (u : gU) (hF : gFull u) (a0 : Nat) (p1 : Int32) (m : gM) (o : gM × Nat × Int32) (h : fX5_restore a0 p1 m = some o) (hz : o.2.1 = 0) (h0 : gIn u a0 4 0) : gMet l G u yX5_restore (.code yX5_restore cX5_restore 2 (some .int)) rmX5_restore [.ref a0, .int p1] m o.1 (some (.int o.2.2)) := by
  refine gMet_of (own := RX5) (k := 0) (by decide) rfl ⟨rfl, rfl⟩ (Nat.le_of_ble_eq_true rfl) [some (.ref a0), some (.int p1)] rfl (fun Y hG hu hnL hLn hRm he => ?_)
  subst hG hu hLn
  unfold fX5_restore at h
  refine r_iload_n (pc := 0) dX5_restore_0 rfl rfl ?_
  obtain ⟨m1, x2, q3, h⟩ := gCl_some h
  refine r_callS (pc := 1) [.int _] (tX5_isSlot _ _ _ hF _ _ _ q3) ⟨rfl, rfl⟩ cd_X5_isSlot wX5_207 nm_X5_isSlot rfl (by rw [hRm]; decide) rfl (Nat.le_of_ble_eq_true rfl) dX5_restore_1 ?_
  obtain ⟨g4, h⟩ := gDem_ret (by decide) h hz
  refine r_callS (pc := 4) [.int _] (tX5_demandPlace _ _ _ _ _ g4) ⟨rfl, rfl⟩ cd_X5_demandPlace wX5_88 nm_X5_demandPlace rfl (by rw [hRm]; decide) rfl (Nat.le_of_ble_eq_true rfl) dX5_restore_4 ?_
  refine r_aload_n (pc := 7) dX5_restore_7 rfl rfl ?_
  refine fX5_37 (pc := 8) hF dX5_restore_8 h0 (fun b5 => ?_)
  refine r_iload_n (pc := 11) dX5_restore_11 rfl rfl ?_
  refine r_zald (pc := 12) dX5_restore_12 b5 h (fun x6 h => ?_)
  obtain ⟨g7, h⟩ := gDem_ret (by decide) h hz
  refine r_callS (pc := 13) [.int _] (tX5_demandState _ _ _ _ _ g7) ⟨rfl, rfl⟩ cd_X5_demandState wX5_53 nm_X5_demandState rfl (by rw [hRm]; decide) rfl (Nat.le_of_ble_eq_true rfl) dX5_restore_13 ?_
  refine r_aload_n (pc := 16) dX5_restore_16 rfl rfl ?_
  refine fX5_19 (pc := 17) hF dX5_restore_17 h0 (fun b8 => ?_)
  refine r_aload_n (pc := 20) dX5_restore_20 rfl rfl ?_
  refine fX5_33 (pc := 21) hF dX5_restore_21 h0 (fun b9 => ?_)
  refine r_iload_n (pc := 24) dX5_restore_24 rfl rfl ?_
  refine r_slots (pc := 25) hF dX5_restore_25 b9 h (fun c10 b11 h => ?_)
  obtain ⟨m12, q14, h⟩ := gCv_some h
  refine r_callVN (kd := 0) (pc := 26) [.ref _] (tX0_copyFrom _ _ _ hF _ _ _ _ q14 b8 b11) ⟨rfl, rfl⟩ cd_X0_copyFrom wX5_160 nm_X0_copyFrom rfl (by rw [hRm]; decide) rfl (Nat.le_of_ble_eq_true rfl) rfl (by decide) b8 dX5_restore_26 ?_
  refine r_aload_n (pc := 29) dX5_restore_29 rfl rfl ?_
  refine fX5_29 (pc := 30) hF dX5_restore_30 h0 (fun b15 => ?_)
  obtain ⟨m16, q18, h⟩ := gCv_some h
  refine r_callVN (kd := 2) (pc := 33) [] (tX2_forgetAll _ _ _ hF _ _ _ q18 b15) ⟨rfl, rfl⟩ cd_X2_forgetAll wX5_70 nm_X2_forgetAll rfl (by rw [hRm]; decide) rfl (Nat.le_of_ble_eq_true rfl) rfl (by decide) b15 dX5_restore_33 ?_
  refine r_aload_n (pc := 36) dX5_restore_36 rfl rfl ?_
  refine fX5_19 (pc := 37) hF dX5_restore_37 h0 (fun b19 => ?_)
  refine fX5_95 (pc := 40) dX5_restore_40 b19 h (fun x20 h => ?_)
  exact r_iretX dX5_restore_43 h he
set_option maxHeartbeats 4000000 in
set_option maxRecDepth 100000 in
theorem tX5_restoreT (l : Launch) (hlt : l.stackTraces = false) (G : gX) (u : gU) (hF : gFull u) (a0 : Nat) (p1 : Int32) (m : gM) (o : gM × Nat × Int32) (h : fX5_restore a0 p1 m = some o) (hz : o.2.1 ≠ 0) (h0 : gIn u a0 4 0) : gMetT l G u yX5_restore (.code yX5_restore cX5_restore 2 (some .int)) rmX5_restoreT [.ref a0, .int p1] m o.1 (gEn o.2.1) := by
  refine gMetT_of hlt (own := RX5) (k := 0) (by decide) rfl ⟨rfl, rfl⟩ (Nat.le_of_ble_eq_true rfl) [some (.ref a0), some (.int p1)] rfl (fun Y hG hu hnL hLn hRm he => ?_)
  subst hG hu hLn
  unfold fX5_restore at h
  refine r_iload_n (pc := 0) dX5_restore_0 rfl rfl ?_
  obtain ⟨m21, x22, q23, h⟩ := gCl_some h
  refine r_callS (pc := 1) [.int _] (tX5_isSlot _ _ _ hF _ _ _ q23) ⟨rfl, rfl⟩ cd_X5_isSlot wX5_207 nm_X5_isSlot rfl (by rw [hRm]; decide) rfl (Nat.le_of_ble_eq_true rfl) dX5_restore_1 ?_
  rcases gDem_thr h with ⟨g24, eg24⟩ | ⟨g24, h⟩
  · subst eg24
    exact r_callST (pc := 4) [.int _] (tX5_demandPlaceT _ hlt _ _ _ _ g24) ⟨rfl, rfl⟩ cd_X5_demandPlace wX5_88 nm_X5_demandPlace rfl (by rw [hRm]; decide) rfl (Nat.le_of_ble_eq_true rfl) dX5_restore_4 he
  refine r_callS (pc := 4) [.int _] (tX5_demandPlace _ _ _ _ _ g24) ⟨rfl, rfl⟩ cd_X5_demandPlace wX5_88 nm_X5_demandPlace rfl (by rw [hRm]; decide) rfl (Nat.le_of_ble_eq_true rfl) dX5_restore_4 ?_
  refine r_aload_n (pc := 7) dX5_restore_7 rfl rfl ?_
  refine fX5_37 (pc := 8) hF dX5_restore_8 h0 (fun b25 => ?_)
  refine r_iload_n (pc := 11) dX5_restore_11 rfl rfl ?_
  refine r_zald (pc := 12) dX5_restore_12 b25 h (fun x26 h => ?_)
  rcases gDem_thr h with ⟨g27, eg27⟩ | ⟨g27, h⟩
  · subst eg27
    exact r_callST (pc := 13) [.int _] (tX5_demandStateT _ hlt _ _ _ _ g27) ⟨rfl, rfl⟩ cd_X5_demandState wX5_53 nm_X5_demandState rfl (by rw [hRm]; decide) rfl (Nat.le_of_ble_eq_true rfl) dX5_restore_13 he
  refine r_callS (pc := 13) [.int _] (tX5_demandState _ _ _ _ _ g27) ⟨rfl, rfl⟩ cd_X5_demandState wX5_53 nm_X5_demandState rfl (by rw [hRm]; decide) rfl (Nat.le_of_ble_eq_true rfl) dX5_restore_13 ?_
  refine r_aload_n (pc := 16) dX5_restore_16 rfl rfl ?_
  refine fX5_19 (pc := 17) hF dX5_restore_17 h0 (fun b28 => ?_)
  refine r_aload_n (pc := 20) dX5_restore_20 rfl rfl ?_
  refine fX5_33 (pc := 21) hF dX5_restore_21 h0 (fun b29 => ?_)
  refine r_iload_n (pc := 24) dX5_restore_24 rfl rfl ?_
  refine r_slots (pc := 25) hF dX5_restore_25 b29 h (fun c30 b31 h => ?_)
  obtain ⟨m32, q34, h⟩ := gCv_some h
  refine r_callVN (kd := 0) (pc := 26) [.ref _] (tX0_copyFrom _ _ _ hF _ _ _ _ q34 b28 b31) ⟨rfl, rfl⟩ cd_X0_copyFrom wX5_160 nm_X0_copyFrom rfl (by rw [hRm]; decide) rfl (Nat.le_of_ble_eq_true rfl) rfl (by decide) b28 dX5_restore_26 ?_
  refine r_aload_n (pc := 29) dX5_restore_29 rfl rfl ?_
  refine fX5_29 (pc := 30) hF dX5_restore_30 h0 (fun b35 => ?_)
  obtain ⟨m36, q38, h⟩ := gCv_some h
  refine r_callVN (kd := 2) (pc := 33) [] (tX2_forgetAll _ _ _ hF _ _ _ q38 b35) ⟨rfl, rfl⟩ cd_X2_forgetAll wX5_70 nm_X2_forgetAll rfl (by rw [hRm]; decide) rfl (Nat.le_of_ble_eq_true rfl) rfl (by decide) b35 dX5_restore_33 ?_
  refine r_aload_n (pc := 36) dX5_restore_36 rfl rfl ?_
  refine fX5_19 (pc := 37) hF dX5_restore_37 h0 (fun b39 => ?_)
  refine fX5_95 (pc := 40) dX5_restore_40 b39 h (fun x40 h => ?_)
  cases h
  exact absurd rfl hz
