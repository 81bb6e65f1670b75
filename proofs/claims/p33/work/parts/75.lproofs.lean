/-! the law's methods: their bytecode does their functions -/
set_option maxHeartbeats 8000000 in
set_option maxRecDepth 100000 in
theorem taL_isOrder (l : Launch) (hlt : l.stackTraces = false) (G : gX) (u : gU) (hF : gFull u) (a1 : Nat) (p2 : Int32) (t : gS) (o : gS × Int32) (h : aL_isOrder a1 p2 t = some o) (h1 : gIn u a1 4 0) : gMetA gI2 l G u yL_isOrder (.code yL_isOrder cL_isOrder 2 (some .boolean)) 11 215 4 [.ref a1, .int p2] t o.1 (some (.int o.2)) := by
  refine gMetA_of (own := RL) (k := 0) (by decide) rfl (Nat.le_of_ble_eq_true rfl) [some (.ref a1), some (.int p2)] rfl (fun Y hG hu hnL hLn hRm hB he => ?_)
  subst hG hu hLn
  unfold aL_isOrder aL_isOrderB at h
  generalize ((t, 0) : gS × Nat) = s at h ⊢
  intro _ hI
  refine r_aload_n (pc := 0) dL_isOrder_0 rfl rfl ?_
  refine r_bipush (pc := 1) (v := 7) dL_isOrder_1 (by decide) ?_
  refine r_iconst (pc := 3) (v := 0) dL_isOrder_3 (by decide) ?_
  refine r_iconst (pc := 4) (v := 0) dL_isOrder_4 (by decide) ?_
  refine r_iconst (pc := 5) (v := 0) dL_isOrder_5 (by decide) ?_
  obtain ⟨s1, x2, q3, eq3, kq3, h⟩ := gCN_some h
  refine r_callA (pc := 6) [.ref _, .int _, .int _, .int _, .int _] (taL_call _ hlt _ _ hF _ _ _ _ _ _ _ q3 h1) cd_L_call wL_190 nm_L_call rfl (by rw [hRm]; decide) rfl (Nat.le_of_ble_eq_true rfl) dL_isOrder_6 hB eq3 kq3 hI (fun _ hI => ?_)
  refine r_iload_n (pc := 9) dL_isOrder_9 rfl rfl ?_
  refine r_sipush (pc := 10) (v := 1000) dL_isOrder_10 (by decide) ?_
  refine r_idivc (pc := 13) dL_isOrder_13 (by decide) ?_
  refine r_icmp_ne (pc := 14) (tgt := 75) dL_isOrder_14 (by decide) h (fun h => ?_) (fun h => ?_)
  · refine r_iconst (pc := 75) (v := 0) dL_isOrder_75 (by decide) ?_
    exact r_zretA dL_isOrder_76 rfl h he hI
  · refine r_aload_n (pc := 17) dL_isOrder_17 rfl rfl ?_
    refine r_bipush (pc := 18) (v := 7) dL_isOrder_18 (by decide) ?_
    refine r_iconst (pc := 20) (v := 1) dL_isOrder_20 (by decide) ?_
    refine r_iconst (pc := 21) (v := 0) dL_isOrder_21 (by decide) ?_
    refine r_iconst (pc := 22) (v := 0) dL_isOrder_22 (by decide) ?_
    obtain ⟨s4, x5, q6, eq6, kq6, h⟩ := gCN_some h
    refine r_callA (pc := 23) [.ref _, .int _, .int _, .int _, .int _] (taL_call _ hlt _ _ hF _ _ _ _ _ _ _ q6 h1) cd_L_call wL_190 nm_L_call rfl (by rw [hRm]; decide) rfl (Nat.le_of_ble_eq_true rfl) dL_isOrder_23 hB eq6 kq6 hI (fun _ hI => ?_)
    refine r_iload_n (pc := 26) dL_isOrder_26 rfl rfl ?_
    refine r_bipush (pc := 27) (v := 100) dL_isOrder_27 (by decide) ?_
    refine r_idivc (pc := 29) dL_isOrder_29 (by decide) ?_
    refine r_bipush (pc := 30) (v := 10) dL_isOrder_30 (by decide) ?_
    refine r_iremc (pc := 32) dL_isOrder_32 (by decide) ?_
    refine r_icmp_ne (pc := 33) (tgt := 75) dL_isOrder_33 (by decide) h (fun h => ?_) (fun h => ?_)
    · refine r_iconst (pc := 75) (v := 0) dL_isOrder_75 (by decide) ?_
      exact r_zretA dL_isOrder_76 rfl h he hI
    · refine r_aload_n (pc := 36) dL_isOrder_36 rfl rfl ?_
      refine r_bipush (pc := 37) (v := 7) dL_isOrder_37 (by decide) ?_
      refine r_iconst (pc := 39) (v := 2) dL_isOrder_39 (by decide) ?_
      refine r_iconst (pc := 40) (v := 0) dL_isOrder_40 (by decide) ?_
      refine r_iconst (pc := 41) (v := 0) dL_isOrder_41 (by decide) ?_
      obtain ⟨s7, x8, q9, eq9, kq9, h⟩ := gCN_some h
      refine r_callA (pc := 42) [.ref _, .int _, .int _, .int _, .int _] (taL_call _ hlt _ _ hF _ _ _ _ _ _ _ q9 h1) cd_L_call wL_190 nm_L_call rfl (by rw [hRm]; decide) rfl (Nat.le_of_ble_eq_true rfl) dL_isOrder_42 hB eq9 kq9 hI (fun _ hI => ?_)
      refine r_iload_n (pc := 45) dL_isOrder_45 rfl rfl ?_
      refine r_bipush (pc := 46) (v := 10) dL_isOrder_46 (by decide) ?_
      refine r_idivc (pc := 48) dL_isOrder_48 (by decide) ?_
      refine r_bipush (pc := 49) (v := 10) dL_isOrder_49 (by decide) ?_
      refine r_iremc (pc := 51) dL_isOrder_51 (by decide) ?_
      refine r_icmp_ne (pc := 52) (tgt := 75) dL_isOrder_52 (by decide) h (fun h => ?_) (fun h => ?_)
      · refine r_iconst (pc := 75) (v := 0) dL_isOrder_75 (by decide) ?_
        exact r_zretA dL_isOrder_76 rfl h he hI
      · refine r_aload_n (pc := 55) dL_isOrder_55 rfl rfl ?_
        refine r_bipush (pc := 56) (v := 7) dL_isOrder_56 (by decide) ?_
        refine r_iconst (pc := 58) (v := 3) dL_isOrder_58 (by decide) ?_
        refine r_iconst (pc := 59) (v := 0) dL_isOrder_59 (by decide) ?_
        refine r_iconst (pc := 60) (v := 0) dL_isOrder_60 (by decide) ?_
        obtain ⟨s10, x11, q12, eq12, kq12, h⟩ := gCN_some h
        refine r_callA (pc := 61) [.ref _, .int _, .int _, .int _, .int _] (taL_call _ hlt _ _ hF _ _ _ _ _ _ _ q12 h1) cd_L_call wL_190 nm_L_call rfl (by rw [hRm]; decide) rfl (Nat.le_of_ble_eq_true rfl) dL_isOrder_61 hB eq12 kq12 hI (fun _ hI => ?_)
        refine r_iload_n (pc := 64) dL_isOrder_64 rfl rfl ?_
        refine r_bipush (pc := 65) (v := 10) dL_isOrder_65 (by decide) ?_
        refine r_iremc (pc := 67) dL_isOrder_67 (by decide) ?_
        refine r_icmp_ne (pc := 68) (tgt := 75) dL_isOrder_68 (by decide) h (fun h => ?_) (fun h => ?_)
        · refine r_iconst (pc := 75) (v := 0) dL_isOrder_75 (by decide) ?_
          exact r_zretA dL_isOrder_76 rfl h he hI
        · refine r_iconst (pc := 71) (v := 1) dL_isOrder_71 (by decide) ?_
          refine r_goto (pc := 72) (tgt := 76) dL_isOrder_72 (by decide) ?_
          exact r_zretA dL_isOrder_76 rfl h he hI
set_option maxHeartbeats 8000000 in
set_option maxRecDepth 100000 in
theorem taL_undoes (l : Launch) (hlt : l.stackTraces = false) (G : gX) (u : gU) (hF : gFull u) (a1 : Nat) (a2 : Nat) (p3 : Int32) (t : gS) (o : gS × Int32) (h : aL_undoes a1 a2 p3 t = some o) (h1 : gIn u a1 4 0) (h2 : gIn u a2 4 0) : gMetA gI2 l G u yL_undoes (.code yL_undoes cL_undoes 5 (some .boolean)) 11 215 12 [.ref a1, .ref a2, .int p3] t o.1 (some (.int o.2)) := by
  refine gMetA_of (own := RL) (k := 2) (by decide) rfl (Nat.le_of_ble_eq_true rfl) [some (.ref a1), some (.ref a2), some (.int p3), none, none] rfl (fun Y hG hu hnL hLn hRm hB he => ?_)
  subst hG hu hLn
  unfold aL_undoes aL_undoesB at h
  generalize ((t, 0) : gS × Nat) = s at h ⊢
  intro _ hI
  refine r_iconst (pc := 0) (v := 1) dL_undoes_0 (by decide) ?_
  refine r_istore_n (pc := 1) dL_undoes_1 rfl (by rw [gYn_nL, hnL]; decide) rfl ?_
  refine r_iload_n (pc := 2) dL_undoes_2 rfl rfl ?_
  refine r_istore (pc := 3) dL_undoes_3 (by rw [gYn_nL, hnL]; decide) rfl ?_
  refine r_jnK h (fun (k3 : Int32 → gS × Nat → Option (gS × Int32)) => ∀ (x1 : Int32) (s2 : gS × Nat), k3 x1 s2 = some o → AL gI2 Y cL_undoes RL 56 [none, none, none, some (.int x1), none] [] s2) (fun x1 s2 h => ?_) (fun k3 hJ4 h => ?_)
  · intro _ hI
    refine r_iload_n (pc := 56) dL_undoes_56 rfl rfl ?_
    exact r_zretA dL_undoes_57 rfl h he hI
  have L24 : ∀ (n22 : Nat) (v25 : Int32) (v26 : Int32) (m27 : gS × Nat), fL_undoes_L5 a1 a2 k3 n22 v25 v26 m27 = some o → AL gI2 Y cL_undoes RL 5 [some (.ref a1), some (.ref a2), none, some (.int v25), some (.int v26)] [] m27 := by
    intro n22
    induction n22 with
    | zero =>
      intro v25 v26 m27 h
      exact absurd h (by simp [fL_undoes_L5])
    | succ n22 ih23 =>
      intro v25 v26 m27 h
      rw [fL_undoes_L5] at h
      intro _ hI
      refine r_iload (pc := 5) dL_undoes_5 rfl ?_
      refine r_if_le (pc := 7) (tgt := 56) dL_undoes_7 (by decide) h (fun h => ?_) (fun h => ?_)
      · exact r_mask [false, false, false, true, false] rfl (hJ4 _ _ h _ hI)
      · refine r_iload_n (pc := 10) dL_undoes_10 rfl rfl ?_
        refine r_if_eq (pc := 11) (tgt := 56) dL_undoes_11 (by decide) h (fun h => ?_) (fun h => ?_)
        · exact r_mask [false, false, false, true, false] rfl (hJ4 _ _ h _ hI)
        · refine r_aload_n (pc := 14) dL_undoes_14 rfl rfl ?_
          refine r_bipush (pc := 15) (v := 16) dL_undoes_15 (by decide) ?_
          refine r_iconst (pc := 17) (v := 0) dL_undoes_17 (by decide) ?_
          refine r_iconst (pc := 18) (v := 0) dL_undoes_18 (by decide) ?_
          refine r_iconst (pc := 19) (v := 0) dL_undoes_19 (by decide) ?_
          obtain ⟨s28, x29, q30, eq30, kq30, h⟩ := gCN_some h
          refine r_callA (pc := 20) [.ref _, .int _, .int _, .int _, .int _] (taL_call _ hlt _ _ hF _ _ _ _ _ _ _ q30 h1) cd_L_call wL_190 nm_L_call rfl (by rw [hRm]; decide) rfl (Nat.le_of_ble_eq_true rfl) dL_undoes_20 hB eq30 kq30 hI (fun _ hI => ?_)
          obtain ⟨s31, x32, q33, eq33, kq33, h⟩ := gCN_some h
          refine r_callA (pc := 23) [.int _] (taL_thrown _ hlt _ _ hF _ _ _ q33) cd_L_thrown wL_238 nm_L_thrown rfl (by rw [hRm]; decide) rfl (Nat.le_of_ble_eq_true rfl) dL_undoes_23 hB eq33 kq33 hI (fun _ hI => ?_)
          refine r_if_ne (pc := 26) (tgt := 48) dL_undoes_26 (by decide) h (fun h => ?_) (fun h => ?_)
          · refine r_iconst (pc := 48) (v := 0) dL_undoes_48 (by decide) ?_
            refine r_istore_n (pc := 49) dL_undoes_49 rfl (by rw [gYn_nL, hnL]; decide) rfl ?_
            refine r_iinc (pc := 50) (d := (-60)) dL_undoes_50 rfl (by decide) (by rw [gYn_nL, hnL]; decide) h (fun x34 h => ?_)
            refine r_goto (pc := 53) (tgt := 5) dL_undoes_53 (by decide) ?_
            exact r_mask [true, true, false, true, true] rfl (ih23 _ _ _ h _ hI)
          · refine r_aload_n (pc := 29) dL_undoes_29 rfl rfl ?_
            refine r_bipush (pc := 30) (v := 16) dL_undoes_30 (by decide) ?_
            refine r_iconst (pc := 32) (v := 0) dL_undoes_32 (by decide) ?_
            refine r_iconst (pc := 33) (v := 0) dL_undoes_33 (by decide) ?_
            refine r_iconst (pc := 34) (v := 0) dL_undoes_34 (by decide) ?_
            obtain ⟨s35, x36, q37, eq37, kq37, h⟩ := gCN_some h
            refine r_callA (pc := 35) [.ref _, .int _, .int _, .int _, .int _] (taL_call _ hlt _ _ hF _ _ _ _ _ _ _ q37 h2) cd_L_call wL_190 nm_L_call rfl (by rw [hRm]; decide) rfl (Nat.le_of_ble_eq_true rfl) dL_undoes_35 hB eq37 kq37 hI (fun _ hI => ?_)
            obtain ⟨s38, x39, q40, eq40, kq40, h⟩ := gCN_some h
            refine r_callA (pc := 38) [.int _] (taL_thrown _ hlt _ _ hF _ _ _ q40) cd_L_thrown wL_238 nm_L_thrown rfl (by rw [hRm]; decide) rfl (Nat.le_of_ble_eq_true rfl) dL_undoes_38 hB eq40 kq40 hI (fun _ hI => ?_)
            refine r_jn1 h (fun x41 => AL gI2 Y cL_undoes RL 49 [some (.ref a1), some (.ref a2), none, none, some (.int v26)] [.int x41] s38) (fun x41 h => ?_) (fun hJ42 => ?_)
            · intro _ hI
              refine r_istore_n (pc := 49) dL_undoes_49 rfl (by rw [gYn_nL, hnL]; decide) rfl ?_
              refine r_iinc (pc := 50) (d := (-60)) dL_undoes_50 rfl (by decide) (by rw [gYn_nL, hnL]; decide) h (fun x44 h => ?_)
              refine r_goto (pc := 53) (tgt := 5) dL_undoes_53 (by decide) ?_
              exact r_mask [true, true, false, true, true] rfl (ih23 _ _ _ h _ hI)
            · refine r_ifC_ne (pc := 41) (tgt := 48) dL_undoes_41 (by decide) (fun g43 => ?_) (fun g43 => ?_)
              · refine r_iconst (pc := 48) (v := 0) dL_undoes_48 (by decide) ?_
                exact r_mask [true, true, false, false, true] rfl (hJ42 _ (by rw [if_neg g43]) _ hI)
              · refine r_iconst (pc := 44) (v := 1) dL_undoes_44 (by decide) ?_
                refine r_goto (pc := 45) (tgt := 49) dL_undoes_45 (by decide) ?_
                exact r_mask [true, true, false, false, true] rfl (hJ42 _ (by rw [if_pos g43]) _ hI)
  exact r_mask [true, true, false, true, true] rfl (L24 _ _ _ _ h _ hI)
set_option maxHeartbeats 8000000 in
set_option maxRecDepth 100000 in
theorem taL_waits (l : Launch) (hlt : l.stackTraces = false) (G : gX) (u : gU) (hF : gFull u) (a1 : Nat) (a2 : Nat) (p3 : Int32) (t : gS) (o : gS × Int32) (h : aL_waits a1 a2 p3 t = some o) (h1 : gIn u a1 4 0) (h2 : gIn u a2 4 0) : gMetA gI2 l G u yL_waits (.code yL_waits cL_waits 7 (some .boolean)) 11 215 12 [.ref a1, .ref a2, .int p3] t o.1 (some (.int o.2)) := by
  refine gMetA_of (own := RL) (k := 4) (by decide) rfl (Nat.le_of_ble_eq_true rfl) [some (.ref a1), some (.ref a2), some (.int p3), none, none, none, none] rfl (fun Y hG hu hnL hLn hRm hB he => ?_)
  subst hG hu hLn
  unfold aL_waits aL_waitsB at h
  generalize ((t, 0) : gS × Nat) = s at h ⊢
  intro _ hI
  refine r_iconst (pc := 0) (v := 1) dL_waits_0 (by decide) ?_
  refine r_istore_n (pc := 1) dL_waits_1 rfl (by rw [gYn_nL, hnL]; decide) rfl ?_
  refine r_iload_n (pc := 2) dL_waits_2 rfl rfl ?_
  refine r_istore (pc := 3) dL_waits_3 (by rw [gYn_nL, hnL]; decide) rfl ?_
  refine r_jnK h (fun (k3 : Int32 → gS × Nat → Option (gS × Int32)) => ∀ (x1 : Int32) (s2 : gS × Nat), k3 x1 s2 = some o → AL gI2 Y cL_waits RL 74 [none, none, none, some (.int x1), none, none, none] [] s2) (fun x1 s2 h => ?_) (fun k3 hJ4 h => ?_)
  · intro _ hI
    refine r_iload_n (pc := 74) dL_waits_74 rfl rfl ?_
    exact r_zretA dL_waits_75 rfl h he hI
  have L21 : ∀ (n19 : Nat) (v22 : Int32) (v23 : Int32) (m24 : gS × Nat), fL_waits_L5 a1 a2 k3 n19 v22 v23 m24 = some o → AL gI2 Y cL_waits RL 5 [some (.ref a1), some (.ref a2), none, some (.int v22), some (.int v23), none, none] [] m24 := by
    intro n19
    induction n19 with
    | zero =>
      intro v22 v23 m24 h
      exact absurd h (by simp [fL_waits_L5])
    | succ n19 ih20 =>
      intro v22 v23 m24 h
      rw [fL_waits_L5] at h
      intro _ hI
      refine r_iload (pc := 5) dL_waits_5 rfl ?_
      refine r_if_le (pc := 7) (tgt := 74) dL_waits_7 (by decide) h (fun h => ?_) (fun h => ?_)
      · exact r_mask [false, false, false, true, false, false, false] rfl (hJ4 _ _ h _ hI)
      · refine r_iload_n (pc := 10) dL_waits_10 rfl rfl ?_
        refine r_if_eq (pc := 11) (tgt := 74) dL_waits_11 (by decide) h (fun h => ?_) (fun h => ?_)
        · exact r_mask [false, false, false, true, false, false, false] rfl (hJ4 _ _ h _ hI)
        · refine r_iload (pc := 14) dL_waits_14 rfl ?_
          refine r_bipush (pc := 16) (v := 60) dL_waits_16 (by decide) ?_
          refine r_jn1 h (fun x25 => AL gI2 Y cL_waits RL 28 [some (.ref a1), some (.ref a2), none, none, some (.int v23), none, none] [.int x25] m24) (fun x25 h => ?_) (fun hJ26 => ?_)
          · intro _ hI
            refine r_istore (pc := 28) dL_waits_28 (by rw [gYn_nL, hnL]; decide) rfl ?_
            refine r_aload_n (pc := 30) dL_waits_30 rfl rfl ?_
            refine r_bipush (pc := 31) (v := 15) dL_waits_31 (by decide) ?_
            refine r_iload (pc := 33) dL_waits_33 rfl ?_
            refine r_iconst (pc := 35) (v := 0) dL_waits_35 (by decide) ?_
            refine r_iconst (pc := 36) (v := 0) dL_waits_36 (by decide) ?_
            obtain ⟨s28, x29, q30, eq30, kq30, h⟩ := gCN_some h
            refine r_callA (pc := 37) [.ref _, .int _, .int _, .int _, .int _] (taL_call _ hlt _ _ hF _ _ _ _ _ _ _ q30 h1) cd_L_call wL_190 nm_L_call rfl (by rw [hRm]; decide) rfl (Nat.le_of_ble_eq_true rfl) dL_waits_37 hB eq30 kq30 hI (fun _ hI => ?_)
            refine r_istore (pc := 40) dL_waits_40 (by rw [gYn_nL, hnL]; decide) rfl ?_
            refine r_iload (pc := 42) dL_waits_42 rfl ?_
            refine r_if_lt (pc := 44) (tgt := 66) dL_waits_44 (by decide) h (fun h => ?_) (fun h => ?_)
            · refine r_iconst (pc := 66) (v := 0) dL_waits_66 (by decide) ?_
              refine r_istore_n (pc := 67) dL_waits_67 rfl (by rw [gYn_nL, hnL]; decide) rfl ?_
              refine r_iinc (pc := 68) (d := (-60)) dL_waits_68 rfl (by decide) (by rw [gYn_nL, hnL]; decide) h (fun x31 h => ?_)
              refine r_goto (pc := 71) (tgt := 5) dL_waits_71 (by decide) ?_
              exact r_mask [true, true, false, true, true, false, false] rfl (ih20 _ _ _ h _ hI)
            · refine r_aload_n (pc := 47) dL_waits_47 rfl rfl ?_
              refine r_bipush (pc := 48) (v := 15) dL_waits_48 (by decide) ?_
              refine r_iload (pc := 50) dL_waits_50 rfl ?_
              refine r_iconst (pc := 52) (v := 0) dL_waits_52 (by decide) ?_
              refine r_iconst (pc := 53) (v := 0) dL_waits_53 (by decide) ?_
              obtain ⟨s32, x33, q34, eq34, kq34, h⟩ := gCN_some h
              refine r_callA (pc := 54) [.ref _, .int _, .int _, .int _, .int _] (taL_call _ hlt _ _ hF _ _ _ _ _ _ _ q34 h2) cd_L_call wL_190 nm_L_call rfl (by rw [hRm]; decide) rfl (Nat.le_of_ble_eq_true rfl) dL_waits_54 hB eq34 kq34 hI (fun _ hI => ?_)
              refine r_iload (pc := 57) dL_waits_57 rfl ?_
              refine r_jn1 h (fun x35 => AL gI2 Y cL_waits RL 67 [some (.ref a1), some (.ref a2), none, none, some (.int v23), none, none] [.int x35] s32) (fun x35 h => ?_) (fun hJ36 => ?_)
              · intro _ hI
                refine r_istore_n (pc := 67) dL_waits_67 rfl (by rw [gYn_nL, hnL]; decide) rfl ?_
                refine r_iinc (pc := 68) (d := (-60)) dL_waits_68 rfl (by decide) (by rw [gYn_nL, hnL]; decide) h (fun x38 h => ?_)
                refine r_goto (pc := 71) (tgt := 5) dL_waits_71 (by decide) ?_
                exact r_mask [true, true, false, true, true, false, false] rfl (ih20 _ _ _ h _ hI)
              · refine r_icmpC_ne (pc := 59) (tgt := 66) dL_waits_59 (by decide) (fun g37 => ?_) (fun g37 => ?_)
                · refine r_iconst (pc := 66) (v := 0) dL_waits_66 (by decide) ?_
                  exact r_mask [true, true, false, false, true, false, false] rfl (hJ36 _ (by rw [if_neg g37]) _ hI)
                · refine r_iconst (pc := 62) (v := 1) dL_waits_62 (by decide) ?_
                  refine r_goto (pc := 63) (tgt := 67) dL_waits_63 (by decide) ?_
                  exact r_mask [true, true, false, false, true, false, false] rfl (hJ36 _ (by rw [if_pos g37]) _ hI)
          · refine r_icmpC_le (pc := 18) (tgt := 26) dL_waits_18 (by decide) (fun g27 => ?_) (fun g27 => ?_)
            · refine r_iload (pc := 26) dL_waits_26 rfl ?_
              exact r_mask [true, true, false, false, true, false, false] rfl (hJ26 _ (by rw [if_pos g27]) _ hI)
            · refine r_bipush (pc := 21) (v := 60) dL_waits_21 (by decide) ?_
              refine r_goto (pc := 23) (tgt := 28) dL_waits_23 (by decide) ?_
              exact r_mask [true, true, false, false, true, false, false] rfl (hJ26 _ (by rw [if_neg g27]) _ hI)
  exact r_mask [true, true, false, true, true, false, false] rfl (L21 _ _ _ _ h _ hI)
set_option maxHeartbeats 8000000 in
set_option maxRecDepth 100000 in
theorem taL_alike (l : Launch) (hlt : l.stackTraces = false) (G : gX) (u : gU) (hF : gFull u) (a1 : Nat) (a2 : Nat) (p3 : Int32) (t : gS) (o : gS × Int32) (h : aL_alike a1 a2 p3 t = some o) (h1 : gIn u a1 4 0) (h2 : gIn u a2 4 0) : gMetA gI2 l G u yL_alike (.code yL_alike cL_alike 5 (some .boolean)) 11 215 200 [.ref a1, .ref a2, .int p3] t o.1 (some (.int o.2)) := by
  refine gMetA_of (own := RL) (k := 2) (by decide) rfl (Nat.le_of_ble_eq_true rfl) [some (.ref a1), some (.ref a2), some (.int p3), none, none] rfl (fun Y hG hu hnL hLn hRm hB he => ?_)
  subst hG hu hLn
  unfold aL_alike aL_alikeB at h
  generalize ((t, 0) : gS × Nat) = s at h ⊢
  intro _ hI
  refine r_aload_n (pc := 0) dL_alike_0 rfl rfl ?_
  refine r_iload_n (pc := 1) dL_alike_1 rfl rfl ?_
  refine r_i2l (pc := 2) dL_alike_2 ?_
  refine r_iconst (pc := 3) (v := 1) dL_alike_3 (by decide) ?_
  refine r_iload_n (pc := 4) dL_alike_4 rfl rfl ?_
  refine r_bipush (pc := 5) (v := 30) dL_alike_5 (by decide) ?_
  refine r_iremc (pc := 7) dL_alike_7 (by decide) ?_
  refine r_iadd (pc := 8) dL_alike_8 ?_
  obtain ⟨s1, x2, q3, eq3, kq3, h⟩ := gCN_some h
  refine r_callAW (pc := 9) [.ref _, .long _, .int _] (taL_doSimulate _ hlt _ _ hF _ _ _ _ _ q3 h1) cd_L_doSimulate wL_208 nm_L_doSimulate rfl (by rw [hRm]; decide) rfl (Nat.le_of_ble_eq_true rfl) dL_alike_9 hB eq3 kq3 hI (fun _ hI => ?_)
  refine r_aload_n (pc := 12) dL_alike_12 rfl rfl ?_
  refine r_iload_n (pc := 13) dL_alike_13 rfl rfl ?_
  refine r_i2l (pc := 14) dL_alike_14 ?_
  refine r_iconst (pc := 15) (v := 1) dL_alike_15 (by decide) ?_
  refine r_iload_n (pc := 16) dL_alike_16 rfl rfl ?_
  refine r_bipush (pc := 17) (v := 30) dL_alike_17 (by decide) ?_
  refine r_iremc (pc := 19) dL_alike_19 (by decide) ?_
  refine r_iadd (pc := 20) dL_alike_20 ?_
  obtain ⟨s4, x5, q6, eq6, kq6, h⟩ := gCN_some h
  refine r_callAW (pc := 21) [.ref _, .long _, .int _] (taL_doSimulate _ hlt _ _ hF _ _ _ _ _ q6 h2) cd_L_doSimulate wL_208 nm_L_doSimulate rfl (by rw [hRm]; decide) rfl (Nat.le_of_ble_eq_true rfl) dL_alike_21 hB eq6 kq6 hI (fun _ hI => ?_)
  refine r_jn1 h (fun x7 => AL gI2 Y cL_alike RL 32 [some (.ref a1), some (.ref a2), some (.int p3), none, none] [.int x7] s4) (fun x7 h => ?_) (fun hJ8 => ?_)
  · intro _ hI
    refine r_istore_n (pc := 32) dL_alike_32 rfl (by rw [gYn_nL, hnL]; decide) rfl ?_
    refine r_iconst (pc := 33) (v := 0) dL_alike_33 (by decide) ?_
    refine r_istore (pc := 34) dL_alike_34 (by rw [gYn_nL, hnL]; decide) rfl ?_
    refine r_jnK h (fun (k12 : Int32 → gS × Nat → Option (gS × Int32)) => ∀ (x10 : Int32) (s11 : gS × Nat), k12 x10 s11 = some o → AL gI2 Y cL_alike RL 221 [none, none, none, some (.int x10), none] [] s11) (fun x10 s11 h => ?_) (fun k12 hJ13 h => ?_)
    · intro _ hI
      refine r_iload_n (pc := 221) dL_alike_221 rfl rfl ?_
      exact r_zretA dL_alike_222 rfl h he hI
    have L61 : ∀ (n59 : Nat) (v62 : Int32) (v63 : Int32) (m64 : gS × Nat), fL_alike_L36 a1 a2 p3 k12 n59 v62 v63 m64 = some o → AL gI2 Y cL_alike RL 36 [some (.ref a1), some (.ref a2), some (.int p3), some (.int v62), some (.int v63)] [] m64 := by
      intro n59
      induction n59 with
      | zero =>
        intro v62 v63 m64 h
        exact absurd h (by simp [fL_alike_L36])
      | succ n59 ih60 =>
        intro v62 v63 m64 h
        rw [fL_alike_L36] at h
        intro _ hI
        refine r_iload (pc := 36) dL_alike_36 rfl ?_
        refine r_bipush (pc := 38) (v := 13) dL_alike_38 (by decide) ?_
        refine r_icmp_ge (pc := 40) (tgt := 221) dL_alike_40 (by decide) h (fun h => ?_) (fun h => ?_)
        · exact r_mask [false, false, false, true, false] rfl (hJ13 _ _ h _ hI)
        · refine r_iload_n (pc := 43) dL_alike_43 rfl rfl ?_
          refine r_if_eq (pc := 44) (tgt := 221) dL_alike_44 (by decide) h (fun h => ?_) (fun h => ?_)
          · exact r_mask [false, false, false, true, false] rfl (hJ13 _ _ h _ hI)
          · refine r_aload_n (pc := 47) dL_alike_47 rfl rfl ?_
            refine r_iconst (pc := 48) (v := 2) dL_alike_48 (by decide) ?_
            refine r_iload (pc := 49) dL_alike_49 rfl ?_
            refine r_iconst (pc := 51) (v := 0) dL_alike_51 (by decide) ?_
            refine r_iconst (pc := 52) (v := 0) dL_alike_52 (by decide) ?_
            obtain ⟨s65, x66, q67, eq67, kq67, h⟩ := gCN_some h
            refine r_callA (pc := 53) [.ref _, .int _, .int _, .int _, .int _] (taL_call _ hlt _ _ hF _ _ _ _ _ _ _ q67 h1) cd_L_call wL_190 nm_L_call rfl (by rw [hRm]; decide) rfl (Nat.le_of_ble_eq_true rfl) dL_alike_53 hB eq67 kq67 hI (fun _ hI => ?_)
            refine r_aload_n (pc := 56) dL_alike_56 rfl rfl ?_
            refine r_iconst (pc := 57) (v := 2) dL_alike_57 (by decide) ?_
            refine r_iload (pc := 58) dL_alike_58 rfl ?_
            refine r_iconst (pc := 60) (v := 0) dL_alike_60 (by decide) ?_
            refine r_iconst (pc := 61) (v := 0) dL_alike_61 (by decide) ?_
            obtain ⟨s68, x69, q70, eq70, kq70, h⟩ := gCN_some h
            refine r_callA (pc := 62) [.ref _, .int _, .int _, .int _, .int _] (taL_call _ hlt _ _ hF _ _ _ _ _ _ _ q70 h2) cd_L_call wL_190 nm_L_call rfl (by rw [hRm]; decide) rfl (Nat.le_of_ble_eq_true rfl) dL_alike_62 hB eq70 kq70 hI (fun _ hI => ?_)
            refine r_icmp_ne (pc := 65) (tgt := 213) dL_alike_65 (by decide) h (fun h => ?_) (fun h => ?_)
            · refine r_iconst (pc := 213) (v := 0) dL_alike_213 (by decide) ?_
              refine r_istore_n (pc := 214) dL_alike_214 rfl (by rw [gYn_nL, hnL]; decide) rfl ?_
              refine r_iinc (pc := 215) (d := 1) dL_alike_215 rfl (by decide) (by rw [gYn_nL, hnL]; decide) h (fun x71 h => ?_)
              refine r_goto (pc := 218) (tgt := 36) dL_alike_218 (by decide) ?_
              exact r_mask [true, true, true, true, true] rfl (ih60 _ _ _ h _ hI)
            · refine r_aload_n (pc := 68) dL_alike_68 rfl rfl ?_
              refine r_iconst (pc := 69) (v := 3) dL_alike_69 (by decide) ?_
              refine r_iload (pc := 70) dL_alike_70 rfl ?_
              refine r_iload_n (pc := 72) dL_alike_72 rfl rfl ?_
              refine r_bipush (pc := 73) (v := 11) dL_alike_73 (by decide) ?_
              refine r_iremc (pc := 75) dL_alike_75 (by decide) ?_
              refine r_iconst (pc := 76) (v := 0) dL_alike_76 (by decide) ?_
              obtain ⟨s72, x73, q74, eq74, kq74, h⟩ := gCN_some h
              refine r_callA (pc := 77) [.ref _, .int _, .int _, .int _, .int _] (taL_call _ hlt _ _ hF _ _ _ _ _ _ _ q74 h1) cd_L_call wL_190 nm_L_call rfl (by rw [hRm]; decide) rfl (Nat.le_of_ble_eq_true rfl) dL_alike_77 hB eq74 kq74 hI (fun _ hI => ?_)
              refine r_aload_n (pc := 80) dL_alike_80 rfl rfl ?_
              refine r_iconst (pc := 81) (v := 3) dL_alike_81 (by decide) ?_
              refine r_iload (pc := 82) dL_alike_82 rfl ?_
              refine r_iload_n (pc := 84) dL_alike_84 rfl rfl ?_
              refine r_bipush (pc := 85) (v := 11) dL_alike_85 (by decide) ?_
              refine r_iremc (pc := 87) dL_alike_87 (by decide) ?_
              refine r_iconst (pc := 88) (v := 0) dL_alike_88 (by decide) ?_
              obtain ⟨s75, x76, q77, eq77, kq77, h⟩ := gCN_some h
              refine r_callA (pc := 89) [.ref _, .int _, .int _, .int _, .int _] (taL_call _ hlt _ _ hF _ _ _ _ _ _ _ q77 h2) cd_L_call wL_190 nm_L_call rfl (by rw [hRm]; decide) rfl (Nat.le_of_ble_eq_true rfl) dL_alike_89 hB eq77 kq77 hI (fun _ hI => ?_)
              refine r_icmp_ne (pc := 92) (tgt := 213) dL_alike_92 (by decide) h (fun h => ?_) (fun h => ?_)
              · refine r_iconst (pc := 213) (v := 0) dL_alike_213 (by decide) ?_
                refine r_istore_n (pc := 214) dL_alike_214 rfl (by rw [gYn_nL, hnL]; decide) rfl ?_
                refine r_iinc (pc := 215) (d := 1) dL_alike_215 rfl (by decide) (by rw [gYn_nL, hnL]; decide) h (fun x78 h => ?_)
                refine r_goto (pc := 218) (tgt := 36) dL_alike_218 (by decide) ?_
                exact r_mask [true, true, true, true, true] rfl (ih60 _ _ _ h _ hI)
              · refine r_aload_n (pc := 95) dL_alike_95 rfl rfl ?_
                refine r_iconst (pc := 96) (v := 4) dL_alike_96 (by decide) ?_
                refine r_iload (pc := 97) dL_alike_97 rfl ?_
                refine r_iload_n (pc := 99) dL_alike_99 rfl rfl ?_
                refine r_bipush (pc := 100) (v := 7) dL_alike_100 (by decide) ?_
                refine r_iremc (pc := 102) dL_alike_102 (by decide) ?_
                refine r_iconst (pc := 103) (v := 0) dL_alike_103 (by decide) ?_
                obtain ⟨s79, x80, q81, eq81, kq81, h⟩ := gCN_some h
                refine r_callA (pc := 104) [.ref _, .int _, .int _, .int _, .int _] (taL_call _ hlt _ _ hF _ _ _ _ _ _ _ q81 h1) cd_L_call wL_190 nm_L_call rfl (by rw [hRm]; decide) rfl (Nat.le_of_ble_eq_true rfl) dL_alike_104 hB eq81 kq81 hI (fun _ hI => ?_)
                refine r_aload_n (pc := 107) dL_alike_107 rfl rfl ?_
                refine r_iconst (pc := 108) (v := 4) dL_alike_108 (by decide) ?_
                refine r_iload (pc := 109) dL_alike_109 rfl ?_
                refine r_iload_n (pc := 111) dL_alike_111 rfl rfl ?_
                refine r_bipush (pc := 112) (v := 7) dL_alike_112 (by decide) ?_
                refine r_iremc (pc := 114) dL_alike_114 (by decide) ?_
                refine r_iconst (pc := 115) (v := 0) dL_alike_115 (by decide) ?_
                obtain ⟨s82, x83, q84, eq84, kq84, h⟩ := gCN_some h
                refine r_callA (pc := 116) [.ref _, .int _, .int _, .int _, .int _] (taL_call _ hlt _ _ hF _ _ _ _ _ _ _ q84 h2) cd_L_call wL_190 nm_L_call rfl (by rw [hRm]; decide) rfl (Nat.le_of_ble_eq_true rfl) dL_alike_116 hB eq84 kq84 hI (fun _ hI => ?_)
                refine r_icmp_ne (pc := 119) (tgt := 213) dL_alike_119 (by decide) h (fun h => ?_) (fun h => ?_)
                · refine r_iconst (pc := 213) (v := 0) dL_alike_213 (by decide) ?_
                  refine r_istore_n (pc := 214) dL_alike_214 rfl (by rw [gYn_nL, hnL]; decide) rfl ?_
                  refine r_iinc (pc := 215) (d := 1) dL_alike_215 rfl (by decide) (by rw [gYn_nL, hnL]; decide) h (fun x85 h => ?_)
                  refine r_goto (pc := 218) (tgt := 36) dL_alike_218 (by decide) ?_
                  exact r_mask [true, true, true, true, true] rfl (ih60 _ _ _ h _ hI)
                · refine r_aload_n (pc := 122) dL_alike_122 rfl rfl ?_
                  refine r_iconst (pc := 123) (v := 5) dL_alike_123 (by decide) ?_
                  refine r_iload (pc := 124) dL_alike_124 rfl ?_
                  refine r_iload_n (pc := 126) dL_alike_126 rfl rfl ?_
                  refine r_iconst (pc := 127) (v := 3) dL_alike_127 (by decide) ?_
                  refine r_iremc (pc := 128) dL_alike_128 (by decide) ?_
                  refine r_iload_n (pc := 129) dL_alike_129 rfl rfl ?_
                  refine r_iconst (pc := 130) (v := 2) dL_alike_130 (by decide) ?_
                  refine r_iremc (pc := 131) dL_alike_131 (by decide) ?_
                  obtain ⟨s86, x87, q88, eq88, kq88, h⟩ := gCN_some h
                  refine r_callA (pc := 132) [.ref _, .int _, .int _, .int _, .int _] (taL_call _ hlt _ _ hF _ _ _ _ _ _ _ q88 h1) cd_L_call wL_190 nm_L_call rfl (by rw [hRm]; decide) rfl (Nat.le_of_ble_eq_true rfl) dL_alike_132 hB eq88 kq88 hI (fun _ hI => ?_)
                  refine r_aload_n (pc := 135) dL_alike_135 rfl rfl ?_
                  refine r_iconst (pc := 136) (v := 5) dL_alike_136 (by decide) ?_
                  refine r_iload (pc := 137) dL_alike_137 rfl ?_
                  refine r_iload_n (pc := 139) dL_alike_139 rfl rfl ?_
                  refine r_iconst (pc := 140) (v := 3) dL_alike_140 (by decide) ?_
                  refine r_iremc (pc := 141) dL_alike_141 (by decide) ?_
                  refine r_iload_n (pc := 142) dL_alike_142 rfl rfl ?_
                  refine r_iconst (pc := 143) (v := 2) dL_alike_143 (by decide) ?_
                  refine r_iremc (pc := 144) dL_alike_144 (by decide) ?_
                  obtain ⟨s89, x90, q91, eq91, kq91, h⟩ := gCN_some h
                  refine r_callA (pc := 145) [.ref _, .int _, .int _, .int _, .int _] (taL_call _ hlt _ _ hF _ _ _ _ _ _ _ q91 h2) cd_L_call wL_190 nm_L_call rfl (by rw [hRm]; decide) rfl (Nat.le_of_ble_eq_true rfl) dL_alike_145 hB eq91 kq91 hI (fun _ hI => ?_)
                  refine r_icmp_ne (pc := 148) (tgt := 213) dL_alike_148 (by decide) h (fun h => ?_) (fun h => ?_)
                  · refine r_iconst (pc := 213) (v := 0) dL_alike_213 (by decide) ?_
                    refine r_istore_n (pc := 214) dL_alike_214 rfl (by rw [gYn_nL, hnL]; decide) rfl ?_
                    refine r_iinc (pc := 215) (d := 1) dL_alike_215 rfl (by decide) (by rw [gYn_nL, hnL]; decide) h (fun x92 h => ?_)
                    refine r_goto (pc := 218) (tgt := 36) dL_alike_218 (by decide) ?_
                    exact r_mask [true, true, true, true, true] rfl (ih60 _ _ _ h _ hI)
                  · refine r_aload_n (pc := 151) dL_alike_151 rfl rfl ?_
                    refine r_bipush (pc := 152) (v := 6) dL_alike_152 (by decide) ?_
                    refine r_iload (pc := 154) dL_alike_154 rfl ?_
                    refine r_iconst (pc := 156) (v := 4) dL_alike_156 (by decide) ?_
                    refine r_iremc (pc := 157) dL_alike_157 (by decide) ?_
                    refine r_iload (pc := 158) dL_alike_158 rfl ?_
                    refine r_bipush (pc := 160) (v := 7) dL_alike_160 (by decide) ?_
                    refine r_iremc (pc := 162) dL_alike_162 (by decide) ?_
                    refine r_iconst (pc := 163) (v := 0) dL_alike_163 (by decide) ?_
                    obtain ⟨s93, x94, q95, eq95, kq95, h⟩ := gCN_some h
                    refine r_callA (pc := 164) [.ref _, .int _, .int _, .int _, .int _] (taL_call _ hlt _ _ hF _ _ _ _ _ _ _ q95 h1) cd_L_call wL_190 nm_L_call rfl (by rw [hRm]; decide) rfl (Nat.le_of_ble_eq_true rfl) dL_alike_164 hB eq95 kq95 hI (fun _ hI => ?_)
                    refine r_aload_n (pc := 167) dL_alike_167 rfl rfl ?_
                    refine r_bipush (pc := 168) (v := 6) dL_alike_168 (by decide) ?_
                    refine r_iload (pc := 170) dL_alike_170 rfl ?_
                    refine r_iconst (pc := 172) (v := 4) dL_alike_172 (by decide) ?_
                    refine r_iremc (pc := 173) dL_alike_173 (by decide) ?_
                    refine r_iload (pc := 174) dL_alike_174 rfl ?_
                    refine r_bipush (pc := 176) (v := 7) dL_alike_176 (by decide) ?_
                    refine r_iremc (pc := 178) dL_alike_178 (by decide) ?_
                    refine r_iconst (pc := 179) (v := 0) dL_alike_179 (by decide) ?_
                    obtain ⟨s96, x97, q98, eq98, kq98, h⟩ := gCN_some h
                    refine r_callA (pc := 180) [.ref _, .int _, .int _, .int _, .int _] (taL_call _ hlt _ _ hF _ _ _ _ _ _ _ q98 h2) cd_L_call wL_190 nm_L_call rfl (by rw [hRm]; decide) rfl (Nat.le_of_ble_eq_true rfl) dL_alike_180 hB eq98 kq98 hI (fun _ hI => ?_)
                    refine r_icmp_ne (pc := 183) (tgt := 213) dL_alike_183 (by decide) h (fun h => ?_) (fun h => ?_)
                    · refine r_iconst (pc := 213) (v := 0) dL_alike_213 (by decide) ?_
                      refine r_istore_n (pc := 214) dL_alike_214 rfl (by rw [gYn_nL, hnL]; decide) rfl ?_
                      refine r_iinc (pc := 215) (d := 1) dL_alike_215 rfl (by decide) (by rw [gYn_nL, hnL]; decide) h (fun x99 h => ?_)
                      refine r_goto (pc := 218) (tgt := 36) dL_alike_218 (by decide) ?_
                      exact r_mask [true, true, true, true, true] rfl (ih60 _ _ _ h _ hI)
                    · refine r_aload_n (pc := 186) dL_alike_186 rfl rfl ?_
                      refine r_bipush (pc := 187) (v := 8) dL_alike_187 (by decide) ?_
                      refine r_iload (pc := 189) dL_alike_189 rfl ?_
                      refine r_iconst (pc := 191) (v := 0) dL_alike_191 (by decide) ?_
                      refine r_iconst (pc := 192) (v := 0) dL_alike_192 (by decide) ?_
                      obtain ⟨s100, x101, q102, eq102, kq102, h⟩ := gCN_some h
                      refine r_callA (pc := 193) [.ref _, .int _, .int _, .int _, .int _] (taL_call _ hlt _ _ hF _ _ _ _ _ _ _ q102 h1) cd_L_call wL_190 nm_L_call rfl (by rw [hRm]; decide) rfl (Nat.le_of_ble_eq_true rfl) dL_alike_193 hB eq102 kq102 hI (fun _ hI => ?_)
                      refine r_aload_n (pc := 196) dL_alike_196 rfl rfl ?_
                      refine r_bipush (pc := 197) (v := 8) dL_alike_197 (by decide) ?_
                      refine r_iload (pc := 199) dL_alike_199 rfl ?_
                      refine r_iconst (pc := 201) (v := 0) dL_alike_201 (by decide) ?_
                      refine r_iconst (pc := 202) (v := 0) dL_alike_202 (by decide) ?_
                      obtain ⟨s103, x104, q105, eq105, kq105, h⟩ := gCN_some h
                      refine r_callA (pc := 203) [.ref _, .int _, .int _, .int _, .int _] (taL_call _ hlt _ _ hF _ _ _ _ _ _ _ q105 h2) cd_L_call wL_190 nm_L_call rfl (by rw [hRm]; decide) rfl (Nat.le_of_ble_eq_true rfl) dL_alike_203 hB eq105 kq105 hI (fun _ hI => ?_)
                      refine r_jn1 h (fun x106 => AL gI2 Y cL_alike RL 214 [some (.ref a1), some (.ref a2), some (.int p3), none, some (.int v63)] [.int x106] s103) (fun x106 h => ?_) (fun hJ107 => ?_)
                      · intro _ hI
                        refine r_istore_n (pc := 214) dL_alike_214 rfl (by rw [gYn_nL, hnL]; decide) rfl ?_
                        refine r_iinc (pc := 215) (d := 1) dL_alike_215 rfl (by decide) (by rw [gYn_nL, hnL]; decide) h (fun x109 h => ?_)
                        refine r_goto (pc := 218) (tgt := 36) dL_alike_218 (by decide) ?_
                        exact r_mask [true, true, true, true, true] rfl (ih60 _ _ _ h _ hI)
                      · refine r_icmpC_ne (pc := 206) (tgt := 213) dL_alike_206 (by decide) (fun g108 => ?_) (fun g108 => ?_)
                        · refine r_iconst (pc := 213) (v := 0) dL_alike_213 (by decide) ?_
                          exact r_mask [true, true, true, false, true] rfl (hJ107 _ (by rw [if_neg g108]) _ hI)
                        · refine r_iconst (pc := 209) (v := 1) dL_alike_209 (by decide) ?_
                          refine r_goto (pc := 210) (tgt := 214) dL_alike_210 (by decide) ?_
                          exact r_mask [true, true, true, false, true] rfl (hJ107 _ (by rw [if_pos g108]) _ hI)
    exact r_mask [true, true, true, true, true] rfl (L61 _ _ _ _ h _ hI)
  · refine r_icmpC_ne (pc := 24) (tgt := 31) dL_alike_24 (by decide) (fun g9 => ?_) (fun g9 => ?_)
    · refine r_iconst (pc := 31) (v := 0) dL_alike_31 (by decide) ?_
      exact r_mask [true, true, true, false, false] rfl (hJ8 _ (by rw [if_neg g9]) _ hI)
    · refine r_iconst (pc := 27) (v := 1) dL_alike_27 (by decide) ?_
      refine r_goto (pc := 28) (tgt := 32) dL_alike_28 (by decide) ?_
      exact r_mask [true, true, true, false, false] rfl (hJ8 _ (by rw [if_pos g9]) _ hI)
set_option maxHeartbeats 8000000 in
set_option maxRecDepth 100000 in
theorem taL_act (l : Launch) (hlt : l.stackTraces = false) (G : gX) (u : gU) (hF : gFull u) (a1 : Nat) (p2 : Int32) (t : gS) (o : gS × Int32) (h : aL_act a1 p2 t = some o) (h1 : gIn u a1 4 0) : gMetA gI2 l G u yL_act (.code yL_act cL_act 5 (some .int)) 11 215 12 [.ref a1, .int p2] t o.1 (some (.int o.2)) := by
  refine gMetA_of (own := RL) (k := 3) (by decide) rfl (Nat.le_of_ble_eq_true rfl) [some (.ref a1), some (.int p2), none, none, none] rfl (fun Y hG hu hnL hLn hRm hB he => ?_)
  subst hG hu hLn
  unfold aL_act aL_actB at h
  generalize ((t, 0) : gS × Nat) = s at h ⊢
  intro _ hI
  refine r_iload_n (pc := 0) dL_act_0 rfl rfl ?_
  refine r_bipush (pc := 1) (v := 16) dL_act_1 (by decide) ?_
  refine r_idivc (pc := 3) dL_act_3 (by decide) ?_
  refine r_istore_nL (pc := 4) dL_act_4 rfl (by rw [gYn_nL, hnL]; decide) h (fun x1 h => ?_)
  refine r_iload_n (pc := 5) dL_act_5 rfl rfl ?_
  refine r_aload_n (pc := 6) dL_act_6 rfl rfl ?_
  refine r_iconst (pc := 7) (v := 2) dL_act_7 (by decide) ?_
  refine r_iconst (pc := 8) (v := 0) dL_act_8 (by decide) ?_
  refine r_iconst (pc := 9) (v := 0) dL_act_9 (by decide) ?_
  refine r_iconst (pc := 10) (v := 0) dL_act_10 (by decide) ?_
  obtain ⟨s2, x3, q4, eq4, kq4, h⟩ := gCN_some h
  refine r_callA (pc := 11) [.ref _, .int _, .int _, .int _, .int _] (taL_call _ hlt _ _ hF _ _ _ _ _ _ _ q4 h1) cd_L_call wL_190 nm_L_call rfl (by rw [hRm]; decide) rfl (Nat.le_of_ble_eq_true rfl) dL_act_11 hB eq4 kq4 hI (fun _ hI => ?_)
  refine r_irem (pc := 14) dL_act_14 h (fun h => ?_)
  refine r_istore_nL (pc := 15) dL_act_15 rfl (by rw [gYn_nL, hnL]; decide) h (fun x5 h => ?_)
  refine r_aload_n (pc := 16) dL_act_16 rfl rfl ?_
  refine r_iconst (pc := 17) (v := 2) dL_act_17 (by decide) ?_
  refine r_iconst (pc := 18) (v := 1) dL_act_18 (by decide) ?_
  refine r_iconst (pc := 19) (v := 0) dL_act_19 (by decide) ?_
  refine r_iconst (pc := 20) (v := 0) dL_act_20 (by decide) ?_
  obtain ⟨s6, x7, q8, eq8, kq8, h⟩ := gCN_some h
  refine r_callA (pc := 21) [.ref _, .int _, .int _, .int _, .int _] (taL_call _ hlt _ _ hF _ _ _ _ _ _ _ q8 h1) cd_L_call wL_190 nm_L_call rfl (by rw [hRm]; decide) rfl (Nat.le_of_ble_eq_true rfl) dL_act_21 hB eq8 kq8 hI (fun _ hI => ?_)
  refine r_istore (pc := 24) dL_act_24 (by rw [gYn_nL, hnL]; decide) rfl ?_
  refine r_iload_n (pc := 26) dL_act_26 rfl rfl ?_
  refine r_bipush (pc := 27) (v := 16) dL_act_27 (by decide) ?_
  refine r_iremc (pc := 29) dL_act_29 (by decide) ?_
  refine r_sw h (fun g9 h => ?_) (fun g9 h => ?_)
  · refine r_tabIn (pc := 30) (tgt := 88) (v := 0) dL_act_30 g9 (by decide) (by decide) rfl (by decide) ?_
    refine r_aload_n (pc := 88) dL_act_88 rfl rfl ?_
    refine r_bipush (pc := 89) (v := 9) dL_act_89 (by decide) ?_
    refine r_iload_n (pc := 91) dL_act_91 rfl rfl ?_
    refine r_iconst (pc := 92) (v := 4) dL_act_92 (by decide) ?_
    refine r_iremc (pc := 93) dL_act_93 (by decide) ?_
    refine r_iload_n (pc := 94) dL_act_94 rfl rfl ?_
    refine r_iconst (pc := 95) (v := 4) dL_act_95 (by decide) ?_
    refine r_idivc (pc := 96) dL_act_96 (by decide) ?_
    refine r_ldc (pc := 97) (v := 10000000) dL_act_97 cL_197 ?_
    refine r_iremc (pc := 99) dL_act_99 (by decide) ?_
    refine r_iconst (pc := 100) (v := 0) dL_act_100 (by decide) ?_
    obtain ⟨s10, x11, q12, eq12, kq12, h⟩ := gCN_some h
    refine r_callA (pc := 101) [.ref _, .int _, .int _, .int _, .int _] (taL_call _ hlt _ _ hF _ _ _ _ _ _ _ q12 h1) cd_L_call wL_190 nm_L_call rfl (by rw [hRm]; decide) rfl (Nat.le_of_ble_eq_true rfl) dL_act_101 hB eq12 kq12 hI (fun _ hI => ?_)
    exact r_iretA dL_act_104 h he hI
  refine r_sw h (fun g13 h => ?_) (fun g13 h => ?_)
  · refine r_tabIn (pc := 30) (tgt := 88) (v := 1) dL_act_30 g13 (by decide) (by decide) rfl (by decide) ?_
    refine r_aload_n (pc := 88) dL_act_88 rfl rfl ?_
    refine r_bipush (pc := 89) (v := 9) dL_act_89 (by decide) ?_
    refine r_iload_n (pc := 91) dL_act_91 rfl rfl ?_
    refine r_iconst (pc := 92) (v := 4) dL_act_92 (by decide) ?_
    refine r_iremc (pc := 93) dL_act_93 (by decide) ?_
    refine r_iload_n (pc := 94) dL_act_94 rfl rfl ?_
    refine r_iconst (pc := 95) (v := 4) dL_act_95 (by decide) ?_
    refine r_idivc (pc := 96) dL_act_96 (by decide) ?_
    refine r_ldc (pc := 97) (v := 10000000) dL_act_97 cL_197 ?_
    refine r_iremc (pc := 99) dL_act_99 (by decide) ?_
    refine r_iconst (pc := 100) (v := 0) dL_act_100 (by decide) ?_
    obtain ⟨s14, x15, q16, eq16, kq16, h⟩ := gCN_some h
    refine r_callA (pc := 101) [.ref _, .int _, .int _, .int _, .int _] (taL_call _ hlt _ _ hF _ _ _ _ _ _ _ q16 h1) cd_L_call wL_190 nm_L_call rfl (by rw [hRm]; decide) rfl (Nat.le_of_ble_eq_true rfl) dL_act_101 hB eq16 kq16 hI (fun _ hI => ?_)
    exact r_iretA dL_act_104 h he hI
  refine r_sw h (fun g17 h => ?_) (fun g17 h => ?_)
  · refine r_tabIn (pc := 30) (tgt := 105) (v := 2) dL_act_30 g17 (by decide) (by decide) rfl (by decide) ?_
    refine r_aload_n (pc := 105) dL_act_105 rfl rfl ?_
    refine r_bipush (pc := 106) (v := 10) dL_act_106 (by decide) ?_
    refine r_iload_n (pc := 108) dL_act_108 rfl rfl ?_
    refine r_iload_n (pc := 109) dL_act_109 rfl rfl ?_
    refine r_bipush (pc := 110) (v := 16) dL_act_110 (by decide) ?_
    refine r_idivc (pc := 112) dL_act_112 (by decide) ?_
    refine r_bipush (pc := 113) (v := 7) dL_act_113 (by decide) ?_
    refine r_iremc (pc := 115) dL_act_115 (by decide) ?_
    refine r_iload_n (pc := 116) dL_act_116 rfl rfl ?_
    refine r_bipush (pc := 117) (v := 112) dL_act_117 (by decide) ?_
    refine r_idivc (pc := 119) dL_act_119 (by decide) ?_
    refine r_bipush (pc := 120) (v := 10) dL_act_120 (by decide) ?_
    refine r_iremc (pc := 122) dL_act_122 (by decide) ?_
    obtain ⟨s18, x19, q20, eq20, kq20, h⟩ := gCN_some h
    refine r_callA (pc := 123) [.ref _, .int _, .int _, .int _, .int _] (taL_call _ hlt _ _ hF _ _ _ _ _ _ _ q20 h1) cd_L_call wL_190 nm_L_call rfl (by rw [hRm]; decide) rfl (Nat.le_of_ble_eq_true rfl) dL_act_123 hB eq20 kq20 hI (fun _ hI => ?_)
    exact r_iretA dL_act_126 h he hI
  refine r_sw h (fun g21 h => ?_) (fun g21 h => ?_)
  · refine r_tabIn (pc := 30) (tgt := 127) (v := 3) dL_act_30 g21 (by decide) (by decide) rfl (by decide) ?_
    refine r_aload_n (pc := 127) dL_act_127 rfl rfl ?_
    refine r_bipush (pc := 128) (v := 11) dL_act_128 (by decide) ?_
    refine r_iload_n (pc := 130) dL_act_130 rfl rfl ?_
    refine r_iload (pc := 131) dL_act_131 rfl ?_
    refine r_iload_n (pc := 133) dL_act_133 rfl rfl ?_
    refine r_bipush (pc := 134) (v := 16) dL_act_134 (by decide) ?_
    refine r_idivc (pc := 136) dL_act_136 (by decide) ?_
    refine r_bipush (pc := 137) (v := 20) dL_act_137 (by decide) ?_
    refine r_iremc (pc := 139) dL_act_139 (by decide) ?_
    refine r_iadd (pc := 140) dL_act_140 ?_
    refine r_iload (pc := 141) dL_act_141 rfl ?_
    refine r_iload_n (pc := 143) dL_act_143 rfl rfl ?_
    refine r_bipush (pc := 144) (v := 16) dL_act_144 (by decide) ?_
    refine r_idivc (pc := 146) dL_act_146 (by decide) ?_
    refine r_bipush (pc := 147) (v := 20) dL_act_147 (by decide) ?_
    refine r_iremc (pc := 149) dL_act_149 (by decide) ?_
    refine r_iadd (pc := 150) dL_act_150 ?_
    refine r_iload_n (pc := 151) dL_act_151 rfl rfl ?_
    refine r_sipush (pc := 152) (v := 512) dL_act_152 (by decide) ?_
    refine r_idivc (pc := 155) dL_act_155 (by decide) ?_
    refine r_bipush (pc := 156) (v := 9) dL_act_156 (by decide) ?_
    refine r_iremc (pc := 158) dL_act_158 (by decide) ?_
    refine r_iadd (pc := 159) dL_act_159 ?_
    obtain ⟨s22, x23, q24, eq24, kq24, h⟩ := gCN_some h
    refine r_callA (pc := 160) [.ref _, .int _, .int _, .int _, .int _] (taL_call _ hlt _ _ hF _ _ _ _ _ _ _ q24 h1) cd_L_call wL_190 nm_L_call rfl (by rw [hRm]; decide) rfl (Nat.le_of_ble_eq_true rfl) dL_act_160 hB eq24 kq24 hI (fun _ hI => ?_)
    exact r_iretA dL_act_163 h he hI
  refine r_sw h (fun g25 h => ?_) (fun g25 h => ?_)
  · refine r_tabIn (pc := 30) (tgt := 164) (v := 4) dL_act_30 g25 (by decide) (by decide) rfl (by decide) ?_
    refine r_aload_n (pc := 164) dL_act_164 rfl rfl ?_
    refine r_bipush (pc := 165) (v := 12) dL_act_165 (by decide) ?_
    refine r_iload_n (pc := 167) dL_act_167 rfl rfl ?_
    refine r_iload_n (pc := 168) dL_act_168 rfl rfl ?_
    refine r_bipush (pc := 169) (v := 16) dL_act_169 (by decide) ?_
    refine r_idivc (pc := 171) dL_act_171 (by decide) ?_
    refine r_iconst (pc := 172) (v := 3) dL_act_172 (by decide) ?_
    refine r_iremc (pc := 173) dL_act_173 (by decide) ?_
    refine r_iconst (pc := 174) (v := 0) dL_act_174 (by decide) ?_
    obtain ⟨s26, x27, q28, eq28, kq28, h⟩ := gCN_some h
    refine r_callA (pc := 175) [.ref _, .int _, .int _, .int _, .int _] (taL_call _ hlt _ _ hF _ _ _ _ _ _ _ q28 h1) cd_L_call wL_190 nm_L_call rfl (by rw [hRm]; decide) rfl (Nat.le_of_ble_eq_true rfl) dL_act_175 hB eq28 kq28 hI (fun _ hI => ?_)
    exact r_iretA dL_act_178 h he hI
  refine r_sw h (fun g29 h => ?_) (fun g29 h => ?_)
  · refine r_tabIn (pc := 30) (tgt := 179) (v := 5) dL_act_30 g29 (by decide) (by decide) rfl (by decide) ?_
    refine r_aload_n (pc := 179) dL_act_179 rfl rfl ?_
    refine r_iload_n (pc := 180) dL_act_180 rfl rfl ?_
    refine r_iconst (pc := 181) (v := 4) dL_act_181 (by decide) ?_
    refine r_iremc (pc := 182) dL_act_182 (by decide) ?_
    refine r_iload_n (pc := 183) dL_act_183 rfl rfl ?_
    refine r_iconst (pc := 184) (v := 4) dL_act_184 (by decide) ?_
    refine r_idivc (pc := 185) dL_act_185 (by decide) ?_
    refine r_bipush (pc := 186) (v := 7) dL_act_186 (by decide) ?_
    refine r_iremc (pc := 188) dL_act_188 (by decide) ?_
    refine r_iload_n (pc := 189) dL_act_189 rfl rfl ?_
    refine r_bipush (pc := 190) (v := 32) dL_act_190 (by decide) ?_
    refine r_idivc (pc := 192) dL_act_192 (by decide) ?_
    refine r_iconst (pc := 193) (v := 3) dL_act_193 (by decide) ?_
    refine r_iremc (pc := 194) dL_act_194 (by decide) ?_
    refine r_jn1 h (fun x30 => AL gI2 Y cL_act RL 203 [none, none, none, none, none] [.int x30, .int ((x1 / 4) - (x1 / 4) / 7 * 7), .int (x1 - x1 / 4 * 4), .ref a1] s6) (fun x30 h => ?_) (fun hJ31 => ?_)
    · intro _ hI
      obtain ⟨s33, x34, q35, eq35, kq35, h⟩ := gCN_some h
      refine r_callAW (pc := 203) [.ref _, .int _, .int _, .int _] (taL_closes _ hlt _ _ hF _ _ _ _ _ _ q35 h1) cd_L_closes wL_198 nm_L_closes rfl (by rw [hRm]; decide) rfl (Nat.le_of_ble_eq_true rfl) dL_act_203 hB eq35 kq35 hI (fun _ hI => ?_)
      exact r_iretA dL_act_206 h he hI
    · refine r_ifC_ne (pc := 195) (tgt := 202) dL_act_195 (by decide) (fun g32 => ?_) (fun g32 => ?_)
      · refine r_iconst (pc := 202) (v := 0) dL_act_202 (by decide) ?_
        exact r_mask [false, false, false, false, false] rfl (hJ31 _ (by rw [if_neg g32]) _ hI)
      · refine r_iconst (pc := 198) (v := 1) dL_act_198 (by decide) ?_
        refine r_goto (pc := 199) (tgt := 203) dL_act_199 (by decide) ?_
        exact r_mask [false, false, false, false, false] rfl (hJ31 _ (by rw [if_pos g32]) _ hI)
  refine r_sw h (fun g36 h => ?_) (fun g36 h => ?_)
  · refine r_tabIn (pc := 30) (tgt := 207) (v := 6) dL_act_30 g36 (by decide) (by decide) rfl (by decide) ?_
    refine r_aload_n (pc := 207) dL_act_207 rfl rfl ?_
    refine r_bipush (pc := 208) (v := 13) dL_act_208 (by decide) ?_
    refine r_iload_n (pc := 210) dL_act_210 rfl rfl ?_
    refine r_iconst (pc := 211) (v := 4) dL_act_211 (by decide) ?_
    refine r_iremc (pc := 212) dL_act_212 (by decide) ?_
    refine r_iload_n (pc := 213) dL_act_213 rfl rfl ?_
    refine r_iconst (pc := 214) (v := 4) dL_act_214 (by decide) ?_
    refine r_idivc (pc := 215) dL_act_215 (by decide) ?_
    refine r_iconst (pc := 216) (v := 4) dL_act_216 (by decide) ?_
    refine r_iremc (pc := 217) dL_act_217 (by decide) ?_
    refine r_iconst (pc := 218) (v := 0) dL_act_218 (by decide) ?_
    obtain ⟨s37, x38, q39, eq39, kq39, h⟩ := gCN_some h
    refine r_callA (pc := 219) [.ref _, .int _, .int _, .int _, .int _] (taL_call _ hlt _ _ hF _ _ _ _ _ _ _ q39 h1) cd_L_call wL_190 nm_L_call rfl (by rw [hRm]; decide) rfl (Nat.le_of_ble_eq_true rfl) dL_act_219 hB eq39 kq39 hI (fun _ hI => ?_)
    exact r_iretA dL_act_222 h he hI
  refine r_sw h (fun g40 h => ?_) (fun g40 h => ?_)
  · refine r_tabIn (pc := 30) (tgt := 223) (v := 7) dL_act_30 g40 (by decide) (by decide) rfl (by decide) ?_
    refine r_aload_n (pc := 223) dL_act_223 rfl rfl ?_
    refine r_bipush (pc := 224) (v := 14) dL_act_224 (by decide) ?_
    refine r_iconst (pc := 226) (v := 0) dL_act_226 (by decide) ?_
    refine r_iload_n (pc := 227) dL_act_227 rfl rfl ?_
    refine r_bipush (pc := 228) (v := 60) dL_act_228 (by decide) ?_
    refine r_iremc (pc := 230) dL_act_230 (by decide) ?_
    refine r_iconst (pc := 231) (v := 0) dL_act_231 (by decide) ?_
    obtain ⟨s41, x42, q43, eq43, kq43, h⟩ := gCN_some h
    refine r_callA (pc := 232) [.ref _, .int _, .int _, .int _, .int _] (taL_call _ hlt _ _ hF _ _ _ _ _ _ _ q43 h1) cd_L_call wL_190 nm_L_call rfl (by rw [hRm]; decide) rfl (Nat.le_of_ble_eq_true rfl) dL_act_232 hB eq43 kq43 hI (fun _ hI => ?_)
    exact r_iretA dL_act_235 h he hI
  refine r_sw h (fun g44 h => ?_) (fun g44 h => ?_)
  · refine r_tabIn (pc := 30) (tgt := 236) (v := 8) dL_act_30 g44 (by decide) (by decide) rfl (by decide) ?_
    refine r_aload_n (pc := 236) dL_act_236 rfl rfl ?_
    refine r_bipush (pc := 237) (v := 14) dL_act_237 (by decide) ?_
    refine r_iconst (pc := 239) (v := 1) dL_act_239 (by decide) ?_
    refine r_iload_n (pc := 240) dL_act_240 rfl rfl ?_
    refine r_iconst (pc := 241) (v := 4) dL_act_241 (by decide) ?_
    refine r_iremc (pc := 242) dL_act_242 (by decide) ?_
    refine r_iadd (pc := 243) dL_act_243 ?_
    refine r_iload_n (pc := 244) dL_act_244 rfl rfl ?_
    refine r_iconst (pc := 245) (v := 4) dL_act_245 (by decide) ?_
    refine r_idivc (pc := 246) dL_act_246 (by decide) ?_
    refine r_bipush (pc := 247) (v := 10) dL_act_247 (by decide) ?_
    refine r_iremc (pc := 249) dL_act_249 (by decide) ?_
    refine r_iconst (pc := 250) (v := 0) dL_act_250 (by decide) ?_
    obtain ⟨s45, x46, q47, eq47, kq47, h⟩ := gCN_some h
    refine r_callA (pc := 251) [.ref _, .int _, .int _, .int _, .int _] (taL_call _ hlt _ _ hF _ _ _ _ _ _ _ q47 h1) cd_L_call wL_190 nm_L_call rfl (by rw [hRm]; decide) rfl (Nat.le_of_ble_eq_true rfl) dL_act_251 hB eq47 kq47 hI (fun _ hI => ?_)
    exact r_iretA dL_act_254 h he hI
  refine r_sw h (fun g48 h => ?_) (fun g48 h => ?_)
  · refine r_tabIn (pc := 30) (tgt := 255) (v := 9) dL_act_30 g48 (by decide) (by decide) rfl (by decide) ?_
    refine r_iload (pc := 255) dL_act_255 rfl ?_
    refine r_iconst (pc := 257) (v := 2) dL_act_257 (by decide) ?_
    refine r_icmp_ge (pc := 258) (tgt := 265) dL_act_258 (by decide) h (fun h => ?_) (fun h => ?_)
    · refine r_aload_n (pc := 265) dL_act_265 rfl rfl ?_
      refine r_bipush (pc := 266) (v := 16) dL_act_266 (by decide) ?_
      refine r_iconst (pc := 268) (v := 0) dL_act_268 (by decide) ?_
      refine r_iconst (pc := 269) (v := 0) dL_act_269 (by decide) ?_
      refine r_iconst (pc := 270) (v := 0) dL_act_270 (by decide) ?_
      obtain ⟨s49, x50, q51, eq51, kq51, h⟩ := gCN_some h
      refine r_callA (pc := 271) [.ref _, .int _, .int _, .int _, .int _] (taL_call _ hlt _ _ hF _ _ _ _ _ _ _ q51 h1) cd_L_call wL_190 nm_L_call rfl (by rw [hRm]; decide) rfl (Nat.le_of_ble_eq_true rfl) dL_act_271 hB eq51 kq51 hI (fun _ hI => ?_)
      exact r_iretA dL_act_274 h he hI
    · refine r_iconst (pc := 261) (v := (-1)) dL_act_261 (by decide) ?_
      refine r_goto (pc := 262) (tgt := 274) dL_act_262 (by decide) ?_
      exact r_iretA dL_act_274 h he hI
  refine r_sw h (fun g52 h => ?_) (fun g52 h => ?_)
  · refine r_tabIn (pc := 30) (tgt := 275) (v := 10) dL_act_30 g52 (by decide) (by decide) rfl (by decide) ?_
    refine r_iload_n (pc := 275) dL_act_275 rfl rfl ?_
    refine r_iconst (pc := 276) (v := 2) dL_act_276 (by decide) ?_
    refine r_iremc (pc := 277) dL_act_277 (by decide) ?_
    refine r_if_ne (pc := 278) (tgt := 297) dL_act_278 (by decide) h (fun h => ?_) (fun h => ?_)
    · refine r_aload_n (pc := 297) dL_act_297 rfl rfl ?_
      refine r_bipush (pc := 298) (v := 23) dL_act_298 (by decide) ?_
      refine r_iload_n (pc := 300) dL_act_300 rfl rfl ?_
      refine r_iconst (pc := 301) (v := 2) dL_act_301 (by decide) ?_
      refine r_idivc (pc := 302) dL_act_302 (by decide) ?_
      refine r_iconst (pc := 303) (v := 2) dL_act_303 (by decide) ?_
      refine r_iremc (pc := 304) dL_act_304 (by decide) ?_
      refine r_iconst (pc := 305) (v := 0) dL_act_305 (by decide) ?_
      refine r_iconst (pc := 306) (v := 0) dL_act_306 (by decide) ?_
      obtain ⟨s53, x54, q55, eq55, kq55, h⟩ := gCN_some h
      refine r_callA (pc := 307) [.ref _, .int _, .int _, .int _, .int _] (taL_call _ hlt _ _ hF _ _ _ _ _ _ _ q55 h1) cd_L_call wL_190 nm_L_call rfl (by rw [hRm]; decide) rfl (Nat.le_of_ble_eq_true rfl) dL_act_307 hB eq55 kq55 hI (fun _ hI => ?_)
      exact r_iretA dL_act_310 h he hI
    · refine r_aload_n (pc := 281) dL_act_281 rfl rfl ?_
      refine r_bipush (pc := 282) (v := 22) dL_act_282 (by decide) ?_
      refine r_iload_n (pc := 284) dL_act_284 rfl rfl ?_
      refine r_iconst (pc := 285) (v := 2) dL_act_285 (by decide) ?_
      refine r_idivc (pc := 286) dL_act_286 (by decide) ?_
      refine r_iconst (pc := 287) (v := 2) dL_act_287 (by decide) ?_
      refine r_iremc (pc := 288) dL_act_288 (by decide) ?_
      refine r_iconst (pc := 289) (v := 0) dL_act_289 (by decide) ?_
      refine r_iconst (pc := 290) (v := 0) dL_act_290 (by decide) ?_
      obtain ⟨s56, x57, q58, eq58, kq58, h⟩ := gCN_some h
      refine r_callA (pc := 291) [.ref _, .int _, .int _, .int _, .int _] (taL_call _ hlt _ _ hF _ _ _ _ _ _ _ q58 h1) cd_L_call wL_190 nm_L_call rfl (by rw [hRm]; decide) rfl (Nat.le_of_ble_eq_true rfl) dL_act_291 hB eq58 kq58 hI (fun _ hI => ?_)
      refine r_goto (pc := 294) (tgt := 310) dL_act_294 (by decide) ?_
      exact r_iretA dL_act_310 h he hI
  have g9n := gNe g9 (z := 0) (by decide)
  have g13n := gNe g13 (z := 1) (by decide)
  have g17n := gNe g17 (z := 2) (by decide)
  have g21n := gNe g21 (z := 3) (by decide)
  have g25n := gNe g25 (z := 4) (by decide)
  have g29n := gNe g29 (z := 5) (by decide)
  have g36n := gNe g36 (z := 6) (by decide)
  have g40n := gNe g40 (z := 7) (by decide)
  have g44n := gNe g44 (z := 8) (by decide)
  have g48n := gNe g48 (z := 9) (by decide)
  have g52n := gNe g52 (z := 10) (by decide)
  refine r_tabOut (pc := 30) (tgt := 311) dL_act_30 (by omega) (by decide) ?_
  refine r_aload_n (pc := 311) dL_act_311 rfl rfl ?_
  refine r_bipush (pc := 312) (v := 15) dL_act_312 (by decide) ?_
  refine r_iconst (pc := 314) (v := 1) dL_act_314 (by decide) ?_
  refine r_iload_n (pc := 315) dL_act_315 rfl rfl ?_
  refine r_bipush (pc := 316) (v := 9) dL_act_316 (by decide) ?_
  refine r_iremc (pc := 318) dL_act_318 (by decide) ?_
  refine r_iadd (pc := 319) dL_act_319 ?_
  refine r_iconst (pc := 320) (v := 0) dL_act_320 (by decide) ?_
  refine r_iconst (pc := 321) (v := 0) dL_act_321 (by decide) ?_
  obtain ⟨s59, x60, q61, eq61, kq61, h⟩ := gCN_some h
  refine r_callA (pc := 322) [.ref _, .int _, .int _, .int _, .int _] (taL_call _ hlt _ _ hF _ _ _ _ _ _ _ q61 h1) cd_L_call wL_190 nm_L_call rfl (by rw [hRm]; decide) rfl (Nat.le_of_ble_eq_true rfl) dL_act_322 hB eq61 kq61 hI (fun _ hI => ?_)
  exact r_iretA dL_act_325 h he hI
set_option maxHeartbeats 8000000 in
set_option maxRecDepth 100000 in
theorem taL_refuses (l : Launch) (hlt : l.stackTraces = false) (G : gX) (u : gU) (hF : gFull u) (a1 : Nat) (p2 : Int32) (t : gS) (o : gS × Int32) (h : aL_refuses a1 p2 t = some o) (h1 : gIn u a1 4 0) : gMetA gI2 l G u yL_refuses (.code yL_refuses cL_refuses 8 (some .boolean)) 11 215 80 [.ref a1, .int p2] t o.1 (some (.int o.2)) := by
  refine gMetA_of (own := RL) (k := 6) (by decide) rfl (Nat.le_of_ble_eq_true rfl) [some (.ref a1), some (.int p2), none, none, none, none, none, none] rfl (fun Y hG hu hnL hLn hRm hB he => ?_)
  subst hG hu hLn
  unfold aL_refuses aL_refusesB at h
  generalize ((t, 0) : gS × Nat) = s at h ⊢
  intro _ hI
  refine r_aload_n (pc := 0) dL_refuses_0 rfl rfl ?_
  refine r_iconst (pc := 1) (v := 2) dL_refuses_1 (by decide) ?_
  refine r_iconst (pc := 2) (v := 0) dL_refuses_2 (by decide) ?_
  refine r_iconst (pc := 3) (v := 0) dL_refuses_3 (by decide) ?_
  refine r_iconst (pc := 4) (v := 0) dL_refuses_4 (by decide) ?_
  obtain ⟨s1, x2, q3, eq3, kq3, h⟩ := gCN_some h
  refine r_callA (pc := 5) [.ref _, .int _, .int _, .int _, .int _] (taL_call _ hlt _ _ hF _ _ _ _ _ _ _ q3 h1) cd_L_call wL_190 nm_L_call rfl (by rw [hRm]; decide) rfl (Nat.le_of_ble_eq_true rfl) dL_refuses_5 hB eq3 kq3 hI (fun _ hI => ?_)
  refine r_istore_n (pc := 8) dL_refuses_8 rfl (by rw [gYn_nL, hnL]; decide) rfl ?_
  refine r_iload_n (pc := 9) dL_refuses_9 rfl rfl ?_
  refine r_iconst (pc := 10) (v := 2) dL_refuses_10 (by decide) ?_
  refine r_iremc (pc := 11) dL_refuses_11 (by decide) ?_
  refine r_jn1 h (fun x4 => AL gI2 Y cL_refuses RL 30 [some (.ref a1), some (.int p2), some (.int x2), none, none, none, none, none] [.int x4] s1) (fun x4 h => ?_) (fun hJ5 => ?_)
  · intro _ hI
    refine r_istore_n (pc := 30) dL_refuses_30 rfl (by rw [gYn_nL, hnL]; decide) rfl ?_
    refine r_iload_n (pc := 31) dL_refuses_31 rfl rfl ?_
    refine r_iconst (pc := 32) (v := 2) dL_refuses_32 (by decide) ?_
    refine r_iremc (pc := 33) dL_refuses_33 (by decide) ?_
    refine r_jn1 h (fun x7 => AL gI2 Y cL_refuses RL 52 [some (.ref a1), some (.int p2), some (.int x2), some (.int x4), none, none, none, none] [.int x7] s1) (fun x7 h => ?_) (fun hJ8 => ?_)
    · intro _ hI
      refine r_istore (pc := 52) dL_refuses_52 (by rw [gYn_nL, hnL]; decide) rfl ?_
      refine r_iload_n (pc := 54) dL_refuses_54 rfl rfl ?_
      refine r_iconst (pc := 55) (v := 2) dL_refuses_55 (by decide) ?_
      refine r_iremc (pc := 56) dL_refuses_56 (by decide) ?_
      refine r_jn1 h (fun x10 => AL gI2 Y cL_refuses RL 76 [some (.ref a1), some (.int p2), some (.int x2), some (.int x4), some (.int x7), none, none, none] [.int x10] s1) (fun x10 h => ?_) (fun hJ11 => ?_)
      · intro _ hI
        refine r_istore (pc := 76) dL_refuses_76 (by rw [gYn_nL, hnL]; decide) rfl ?_
        refine r_aload_n (pc := 78) dL_refuses_78 rfl rfl ?_
        refine r_iconst (pc := 79) (v := 3) dL_refuses_79 (by decide) ?_
        refine r_iconst (pc := 80) (v := 0) dL_refuses_80 (by decide) ?_
        refine r_bipush (pc := 81) (v := 8) dL_refuses_81 (by decide) ?_
        refine r_iconst (pc := 83) (v := 0) dL_refuses_83 (by decide) ?_
        obtain ⟨s13, x14, q15, eq15, kq15, h⟩ := gCN_some h
        refine r_callA (pc := 84) [.ref _, .int _, .int _, .int _, .int _] (taL_call _ hlt _ _ hF _ _ _ _ _ _ _ q15 h1) cd_L_call wL_190 nm_L_call rfl (by rw [hRm]; decide) rfl (Nat.le_of_ble_eq_true rfl) dL_refuses_84 hB eq15 kq15 hI (fun _ hI => ?_)
        refine r_istore (pc := 87) dL_refuses_87 (by rw [gYn_nL, hnL]; decide) rfl ?_
        refine r_aload_n (pc := 89) dL_refuses_89 rfl rfl ?_
        refine r_iconst (pc := 90) (v := 0) dL_refuses_90 (by decide) ?_
        refine r_iload_n (pc := 91) dL_refuses_91 rfl rfl ?_
        refine r_iconst (pc := 92) (v := 2) dL_refuses_92 (by decide) ?_
        refine r_iremc (pc := 93) dL_refuses_93 (by decide) ?_
        refine r_jn1 h (fun x16 => AL gI2 Y cL_refuses RL 114 [some (.ref a1), some (.int p2), some (.int x2), some (.int x4), some (.int x7), some (.int x10), some (.int x14), none] [.int x16, .int 0, .ref a1] s13) (fun x16 h => ?_) (fun hJ17 => ?_)
        · intro _ hI
          refine r_iconst (pc := 114) (v := 0) dL_refuses_114 (by decide) ?_
          refine r_iconst (pc := 115) (v := 0) dL_refuses_115 (by decide) ?_
          obtain ⟨s19, x20, q21, eq21, kq21, h⟩ := gCN_some h
          refine r_callA (pc := 116) [.ref _, .int _, .int _, .int _, .int _] (taL_call _ hlt _ _ hF _ _ _ _ _ _ _ q21 h1) cd_L_call wL_190 nm_L_call rfl (by rw [hRm]; decide) rfl (Nat.le_of_ble_eq_true rfl) dL_refuses_116 hB eq21 kq21 hI (fun _ hI => ?_)
          refine r_ldc (pc := 119) (v := (-9999002)) dL_refuses_119 cL_18 ?_
          refine r_jnK h (fun (k24 : Int32 → gS × Nat → Option (gS × Int32)) => ∀ (x22 : Int32) (s23 : gS × Nat), k24 x22 s23 = some o → AL gI2 Y cL_refuses RL 1082 [some (.ref a1), none, some (.int x2), none, none, none, some (.int x14), none] [.int x22] s23) (fun x22 s23 h => ?_) (fun k24 hJ25 h => ?_)
          · intro _ hI
            refine r_istore (pc := 1082) dL_refuses_1082 (by rw [gYn_nL, hnL]; decide) rfl ?_
            refine r_iload (pc := 1084) dL_refuses_1084 rfl ?_
            refine r_if_eq (pc := 1086) (tgt := 1133) dL_refuses_1086 (by decide) h (fun h => ?_) (fun h => ?_)
            · refine r_iconst (pc := 1133) (v := 0) dL_refuses_1133 (by decide) ?_
              exact r_zretA dL_refuses_1134 rfl h he hI
            · refine r_iload_n (pc := 1089) dL_refuses_1089 rfl rfl ?_
              refine r_bipush (pc := 1090) (v := 10) dL_refuses_1090 (by decide) ?_
              refine r_jnK h (fun (k27 : gS × Nat → Option (gS × Int32)) => ∀ (s26 : gS × Nat), k27 s26 = some o → AL gI2 Y cL_refuses RL 1109 [some (.ref a1), none, none, none, none, none, some (.int x14), none] [] s26) (fun s26 h => ?_) (fun k27 hJ28 h => ?_)
              · intro _ hI
                refine r_iload (pc := 1109) dL_refuses_1109 rfl ?_
                refine r_iconst (pc := 1111) (v := 3) dL_refuses_1111 (by decide) ?_
                refine r_icmp_lt (pc := 1112) (tgt := 1129) dL_refuses_1112 (by decide) h (fun h => ?_) (fun h => ?_)
                · refine r_iconst (pc := 1129) (v := 1) dL_refuses_1129 (by decide) ?_
                  refine r_goto (pc := 1130) (tgt := 1134) dL_refuses_1130 (by decide) ?_
                  exact r_zretA dL_refuses_1134 rfl h he hI
                · refine r_aload_n (pc := 1115) dL_refuses_1115 rfl rfl ?_
                  refine r_bipush (pc := 1116) (v := 11) dL_refuses_1116 (by decide) ?_
                  refine r_iconst (pc := 1118) (v := 0) dL_refuses_1118 (by decide) ?_
                  refine r_iconst (pc := 1119) (v := 5) dL_refuses_1119 (by decide) ?_
                  refine r_iconst (pc := 1120) (v := 5) dL_refuses_1120 (by decide) ?_
                  obtain ⟨s29, x30, q31, eq31, kq31, h⟩ := gCN_some h
                  refine r_callA (pc := 1121) [.ref _, .int _, .int _, .int _, .int _] (taL_call _ hlt _ _ hF _ _ _ _ _ _ _ q31 h1) cd_L_call wL_190 nm_L_call rfl (by rw [hRm]; decide) rfl (Nat.le_of_ble_eq_true rfl) dL_refuses_1121 hB eq31 kq31 hI (fun _ hI => ?_)
                  refine r_ldc (pc := 1124) (v := (-9999003)) dL_refuses_1124 cL_37 ?_
                  refine r_icmp_ne (pc := 1126) (tgt := 1133) dL_refuses_1126 (by decide) h (fun h => ?_) (fun h => ?_)
                  · refine r_iconst (pc := 1133) (v := 0) dL_refuses_1133 (by decide) ?_
                    exact r_zretA dL_refuses_1134 rfl h he hI
                  · refine r_iconst (pc := 1129) (v := 1) dL_refuses_1129 (by decide) ?_
                    refine r_goto (pc := 1130) (tgt := 1134) dL_refuses_1130 (by decide) ?_
                    exact r_zretA dL_refuses_1134 rfl h he hI
              refine r_icmp_lt (pc := 1092) (tgt := 1109) dL_refuses_1092 (by decide) h (fun h => ?_) (fun h => ?_)
              · exact r_mask [true, false, false, false, false, false, true, false] rfl (hJ28 _ h _ hI)
              · refine r_aload_n (pc := 1095) dL_refuses_1095 rfl rfl ?_
                refine r_bipush (pc := 1096) (v := 9) dL_refuses_1096 (by decide) ?_
                refine r_iconst (pc := 1098) (v := 0) dL_refuses_1098 (by decide) ?_
                refine r_iconst (pc := 1099) (v := 5) dL_refuses_1099 (by decide) ?_
                refine r_iconst (pc := 1100) (v := 0) dL_refuses_1100 (by decide) ?_
                obtain ⟨s32, x33, q34, eq34, kq34, h⟩ := gCN_some h
                refine r_callA (pc := 1101) [.ref _, .int _, .int _, .int _, .int _] (taL_call _ hlt _ _ hF _ _ _ _ _ _ _ q34 h1) cd_L_call wL_190 nm_L_call rfl (by rw [hRm]; decide) rfl (Nat.le_of_ble_eq_true rfl) dL_refuses_1101 hB eq34 kq34 hI (fun _ hI => ?_)
                refine r_ldc (pc := 1104) (v := (-9999003)) dL_refuses_1104 cL_37 ?_
                refine r_icmp_ne (pc := 1106) (tgt := 1133) dL_refuses_1106 (by decide) h (fun h => ?_) (fun h => ?_)
                · refine r_iconst (pc := 1133) (v := 0) dL_refuses_1133 (by decide) ?_
                  exact r_zretA dL_refuses_1134 rfl h he hI
                · exact r_mask [true, false, false, false, false, false, true, false] rfl (hJ28 _ h _ hI)
          refine r_icmp_ne (pc := 121) (tgt := 1081) dL_refuses_121 (by decide) h (fun h => ?_) (fun h => ?_)
          · refine r_iconst (pc := 1081) (v := 0) dL_refuses_1081 (by decide) ?_
            exact r_mask [true, false, true, false, false, false, true, false] rfl (hJ25 _ _ h _ hI)
          · refine r_aload_n (pc := 124) dL_refuses_124 rfl rfl ?_
            refine r_iconst (pc := 125) (v := 2) dL_refuses_125 (by decide) ?_
            refine r_bipush (pc := 126) (v := 13) dL_refuses_126 (by decide) ?_
            refine r_iload_n (pc := 128) dL_refuses_128 rfl rfl ?_
            refine r_bipush (pc := 129) (v := 50) dL_refuses_129 (by decide) ?_
            refine r_iremc (pc := 131) dL_refuses_131 (by decide) ?_
            refine r_iadd (pc := 132) dL_refuses_132 ?_
            refine r_iconst (pc := 133) (v := 0) dL_refuses_133 (by decide) ?_
            refine r_iconst (pc := 134) (v := 0) dL_refuses_134 (by decide) ?_
            obtain ⟨s35, x36, q37, eq37, kq37, h⟩ := gCN_some h
            refine r_callA (pc := 135) [.ref _, .int _, .int _, .int _, .int _] (taL_call _ hlt _ _ hF _ _ _ _ _ _ _ q37 h1) cd_L_call wL_190 nm_L_call rfl (by rw [hRm]; decide) rfl (Nat.le_of_ble_eq_true rfl) dL_refuses_135 hB eq37 kq37 hI (fun _ hI => ?_)
            refine r_ldc (pc := 138) (v := (-9999002)) dL_refuses_138 cL_18 ?_
            refine r_icmp_ne (pc := 140) (tgt := 1081) dL_refuses_140 (by decide) h (fun h => ?_) (fun h => ?_)
            · refine r_iconst (pc := 1081) (v := 0) dL_refuses_1081 (by decide) ?_
              exact r_mask [true, false, true, false, false, false, true, false] rfl (hJ25 _ _ h _ hI)
            · refine r_aload_n (pc := 143) dL_refuses_143 rfl rfl ?_
              refine r_iconst (pc := 144) (v := 3) dL_refuses_144 (by decide) ?_
              refine r_iload_n (pc := 145) dL_refuses_145 rfl rfl ?_
              refine r_bipush (pc := 146) (v := 99) dL_refuses_146 (by decide) ?_
              refine r_iconst (pc := 148) (v := 0) dL_refuses_148 (by decide) ?_
              obtain ⟨s38, x39, q40, eq40, kq40, h⟩ := gCN_some h
              refine r_callA (pc := 149) [.ref _, .int _, .int _, .int _, .int _] (taL_call _ hlt _ _ hF _ _ _ _ _ _ _ q40 h1) cd_L_call wL_190 nm_L_call rfl (by rw [hRm]; decide) rfl (Nat.le_of_ble_eq_true rfl) dL_refuses_149 hB eq40 kq40 hI (fun _ hI => ?_)
              refine r_ldc (pc := 152) (v := (-9999001)) dL_refuses_152 cL_15 ?_
              refine r_icmp_ne (pc := 154) (tgt := 1081) dL_refuses_154 (by decide) h (fun h => ?_) (fun h => ?_)
              · refine r_iconst (pc := 1081) (v := 0) dL_refuses_1081 (by decide) ?_
                exact r_mask [true, false, true, false, false, false, true, false] rfl (hJ25 _ _ h _ hI)
              · refine r_aload_n (pc := 157) dL_refuses_157 rfl rfl ?_
                refine r_iconst (pc := 158) (v := 3) dL_refuses_158 (by decide) ?_
                refine r_iconst (pc := 159) (v := 0) dL_refuses_159 (by decide) ?_
                refine r_bipush (pc := 160) (v := 11) dL_refuses_160 (by decide) ?_
                refine r_iload_n (pc := 162) dL_refuses_162 rfl rfl ?_
                refine r_bipush (pc := 163) (v := 9) dL_refuses_163 (by decide) ?_
                refine r_iremc (pc := 165) dL_refuses_165 (by decide) ?_
                refine r_iadd (pc := 166) dL_refuses_166 ?_
                refine r_iconst (pc := 167) (v := 0) dL_refuses_167 (by decide) ?_
                obtain ⟨s41, x42, q43, eq43, kq43, h⟩ := gCN_some h
                refine r_callA (pc := 168) [.ref _, .int _, .int _, .int _, .int _] (taL_call _ hlt _ _ hF _ _ _ _ _ _ _ q43 h1) cd_L_call wL_190 nm_L_call rfl (by rw [hRm]; decide) rfl (Nat.le_of_ble_eq_true rfl) dL_refuses_168 hB eq43 kq43 hI (fun _ hI => ?_)
                refine r_ldc (pc := 171) (v := (-9999002)) dL_refuses_171 cL_18 ?_
                refine r_icmp_ne (pc := 173) (tgt := 1081) dL_refuses_173 (by decide) h (fun h => ?_) (fun h => ?_)
                · refine r_iconst (pc := 1081) (v := 0) dL_refuses_1081 (by decide) ?_
                  exact r_mask [true, false, true, false, false, false, true, false] rfl (hJ25 _ _ h _ hI)
                · refine r_aload_n (pc := 176) dL_refuses_176 rfl rfl ?_
                  refine r_iconst (pc := 177) (v := 4) dL_refuses_177 (by decide) ?_
                  refine r_iload_n (pc := 178) dL_refuses_178 rfl rfl ?_
                  refine r_iconst (pc := 179) (v := 0) dL_refuses_179 (by decide) ?_
                  refine r_iconst (pc := 180) (v := 0) dL_refuses_180 (by decide) ?_
                  obtain ⟨s44, x45, q46, eq46, kq46, h⟩ := gCN_some h
                  refine r_callA (pc := 181) [.ref _, .int _, .int _, .int _, .int _] (taL_call _ hlt _ _ hF _ _ _ _ _ _ _ q46 h1) cd_L_call wL_190 nm_L_call rfl (by rw [hRm]; decide) rfl (Nat.le_of_ble_eq_true rfl) dL_refuses_181 hB eq46 kq46 hI (fun _ hI => ?_)
                  refine r_ldc (pc := 184) (v := (-9999001)) dL_refuses_184 cL_15 ?_
                  refine r_icmp_ne (pc := 186) (tgt := 1081) dL_refuses_186 (by decide) h (fun h => ?_) (fun h => ?_)
                  · refine r_iconst (pc := 1081) (v := 0) dL_refuses_1081 (by decide) ?_
                    exact r_mask [true, false, true, false, false, false, true, false] rfl (hJ25 _ _ h _ hI)
                  · refine r_aload_n (pc := 189) dL_refuses_189 rfl rfl ?_
                    refine r_iconst (pc := 190) (v := 4) dL_refuses_190 (by decide) ?_
                    refine r_iconst (pc := 191) (v := 0) dL_refuses_191 (by decide) ?_
                    refine r_iload (pc := 192) dL_refuses_192 rfl ?_
                    refine r_iconst (pc := 194) (v := 0) dL_refuses_194 (by decide) ?_
                    obtain ⟨s47, x48, q49, eq49, kq49, h⟩ := gCN_some h
                    refine r_callA (pc := 195) [.ref _, .int _, .int _, .int _, .int _] (taL_call _ hlt _ _ hF _ _ _ _ _ _ _ q49 h1) cd_L_call wL_190 nm_L_call rfl (by rw [hRm]; decide) rfl (Nat.le_of_ble_eq_true rfl) dL_refuses_195 hB eq49 kq49 hI (fun _ hI => ?_)
                    refine r_ldc (pc := 198) (v := (-9999001)) dL_refuses_198 cL_15 ?_
                    refine r_icmp_ne (pc := 200) (tgt := 1081) dL_refuses_200 (by decide) h (fun h => ?_) (fun h => ?_)
                    · refine r_iconst (pc := 1081) (v := 0) dL_refuses_1081 (by decide) ?_
                      exact r_mask [true, false, true, false, false, false, true, false] rfl (hJ25 _ _ h _ hI)
                    · refine r_aload_n (pc := 203) dL_refuses_203 rfl rfl ?_
                      refine r_iconst (pc := 204) (v := 5) dL_refuses_204 (by decide) ?_
                      refine r_iload_n (pc := 205) dL_refuses_205 rfl rfl ?_
                      refine r_iconst (pc := 206) (v := 0) dL_refuses_206 (by decide) ?_
                      refine r_bipush (pc := 207) (v := 9) dL_refuses_207 (by decide) ?_
                      obtain ⟨s50, x51, q52, eq52, kq52, h⟩ := gCN_some h
                      refine r_callA (pc := 209) [.ref _, .int _, .int _, .int _, .int _] (taL_call _ hlt _ _ hF _ _ _ _ _ _ _ q52 h1) cd_L_call wL_190 nm_L_call rfl (by rw [hRm]; decide) rfl (Nat.le_of_ble_eq_true rfl) dL_refuses_209 hB eq52 kq52 hI (fun _ hI => ?_)
                      refine r_ldc (pc := 212) (v := (-9999001)) dL_refuses_212 cL_15 ?_
                      refine r_icmp_ne (pc := 214) (tgt := 1081) dL_refuses_214 (by decide) h (fun h => ?_) (fun h => ?_)
                      · refine r_iconst (pc := 1081) (v := 0) dL_refuses_1081 (by decide) ?_
                        exact r_mask [true, false, true, false, false, false, true, false] rfl (hJ25 _ _ h _ hI)
                      · refine r_aload_n (pc := 217) dL_refuses_217 rfl rfl ?_
                        refine r_iconst (pc := 218) (v := 5) dL_refuses_218 (by decide) ?_
                        refine r_iconst (pc := 219) (v := 0) dL_refuses_219 (by decide) ?_
                        refine r_iload_n (pc := 220) dL_refuses_220 rfl rfl ?_
                        refine r_iconst (pc := 221) (v := 2) dL_refuses_221 (by decide) ?_
                        refine r_iremc (pc := 222) dL_refuses_222 (by decide) ?_
                        refine r_jn1 h (fun x53 => AL gI2 Y cL_refuses RL 236 [some (.ref a1), some (.int p2), some (.int x2), some (.int x4), some (.int x7), some (.int x10), some (.int x14), none] [.int x53, .int 0, .int 5, .ref a1] s50) (fun x53 h => ?_) (fun hJ54 => ?_)
                        · intro _ hI
                          refine r_bipush (pc := 236) (v := 9) dL_refuses_236 (by decide) ?_
                          obtain ⟨s56, x57, q58, eq58, kq58, h⟩ := gCN_some h
                          refine r_callA (pc := 238) [.ref _, .int _, .int _, .int _, .int _] (taL_call _ hlt _ _ hF _ _ _ _ _ _ _ q58 h1) cd_L_call wL_190 nm_L_call rfl (by rw [hRm]; decide) rfl (Nat.le_of_ble_eq_true rfl) dL_refuses_238 hB eq58 kq58 hI (fun _ hI => ?_)
                          refine r_ldc (pc := 241) (v := (-9999001)) dL_refuses_241 cL_15 ?_
                          refine r_icmp_ne (pc := 243) (tgt := 1081) dL_refuses_243 (by decide) h (fun h => ?_) (fun h => ?_)
                          · refine r_iconst (pc := 1081) (v := 0) dL_refuses_1081 (by decide) ?_
                            exact r_mask [true, false, true, false, false, false, true, false] rfl (hJ25 _ _ h _ hI)
                          · refine r_aload_n (pc := 246) dL_refuses_246 rfl rfl ?_
                            refine r_iconst (pc := 247) (v := 5) dL_refuses_247 (by decide) ?_
                            refine r_iconst (pc := 248) (v := 0) dL_refuses_248 (by decide) ?_
                            refine r_iconst (pc := 249) (v := 0) dL_refuses_249 (by decide) ?_
                            refine r_iconst (pc := 250) (v := 2) dL_refuses_250 (by decide) ?_
                            refine r_iload_n (pc := 251) dL_refuses_251 rfl rfl ?_
                            refine r_bipush (pc := 252) (v := 9) dL_refuses_252 (by decide) ?_
                            refine r_iremc (pc := 254) dL_refuses_254 (by decide) ?_
                            refine r_iadd (pc := 255) dL_refuses_255 ?_
                            obtain ⟨s59, x60, q61, eq61, kq61, h⟩ := gCN_some h
                            refine r_callA (pc := 256) [.ref _, .int _, .int _, .int _, .int _] (taL_call _ hlt _ _ hF _ _ _ _ _ _ _ q61 h1) cd_L_call wL_190 nm_L_call rfl (by rw [hRm]; decide) rfl (Nat.le_of_ble_eq_true rfl) dL_refuses_256 hB eq61 kq61 hI (fun _ hI => ?_)
                            refine r_ldc (pc := 259) (v := (-9999002)) dL_refuses_259 cL_18 ?_
                            refine r_icmp_ne (pc := 261) (tgt := 1081) dL_refuses_261 (by decide) h (fun h => ?_) (fun h => ?_)
                            · refine r_iconst (pc := 1081) (v := 0) dL_refuses_1081 (by decide) ?_
                              exact r_mask [true, false, true, false, false, false, true, false] rfl (hJ25 _ _ h _ hI)
                            · refine r_aload_n (pc := 264) dL_refuses_264 rfl rfl ?_
                              refine r_bipush (pc := 265) (v := 6) dL_refuses_265 (by decide) ?_
                              refine r_iload (pc := 267) dL_refuses_267 rfl ?_
                              refine r_iconst (pc := 269) (v := 0) dL_refuses_269 (by decide) ?_
                              refine r_iconst (pc := 270) (v := 0) dL_refuses_270 (by decide) ?_
                              obtain ⟨s62, x63, q64, eq64, kq64, h⟩ := gCN_some h
                              refine r_callA (pc := 271) [.ref _, .int _, .int _, .int _, .int _] (taL_call _ hlt _ _ hF _ _ _ _ _ _ _ q64 h1) cd_L_call wL_190 nm_L_call rfl (by rw [hRm]; decide) rfl (Nat.le_of_ble_eq_true rfl) dL_refuses_271 hB eq64 kq64 hI (fun _ hI => ?_)
                              refine r_ldc (pc := 274) (v := (-9999001)) dL_refuses_274 cL_15 ?_
                              refine r_icmp_ne (pc := 276) (tgt := 1081) dL_refuses_276 (by decide) h (fun h => ?_) (fun h => ?_)
                              · refine r_iconst (pc := 1081) (v := 0) dL_refuses_1081 (by decide) ?_
                                exact r_mask [true, false, true, false, false, false, true, false] rfl (hJ25 _ _ h _ hI)
                              · refine r_aload_n (pc := 279) dL_refuses_279 rfl rfl ?_
                                refine r_bipush (pc := 280) (v := 6) dL_refuses_280 (by decide) ?_
                                refine r_iconst (pc := 282) (v := 0) dL_refuses_282 (by decide) ?_
                                refine r_iload (pc := 283) dL_refuses_283 rfl ?_
                                refine r_iconst (pc := 285) (v := 0) dL_refuses_285 (by decide) ?_
                                obtain ⟨s65, x66, q67, eq67, kq67, h⟩ := gCN_some h
                                refine r_callA (pc := 286) [.ref _, .int _, .int _, .int _, .int _] (taL_call _ hlt _ _ hF _ _ _ _ _ _ _ q67 h1) cd_L_call wL_190 nm_L_call rfl (by rw [hRm]; decide) rfl (Nat.le_of_ble_eq_true rfl) dL_refuses_286 hB eq67 kq67 hI (fun _ hI => ?_)
                                refine r_ldc (pc := 289) (v := (-9999001)) dL_refuses_289 cL_15 ?_
                                refine r_icmp_ne (pc := 291) (tgt := 1081) dL_refuses_291 (by decide) h (fun h => ?_) (fun h => ?_)
                                · refine r_iconst (pc := 1081) (v := 0) dL_refuses_1081 (by decide) ?_
                                  exact r_mask [true, false, true, false, false, false, true, false] rfl (hJ25 _ _ h _ hI)
                                · refine r_aload_n (pc := 294) dL_refuses_294 rfl rfl ?_
                                  refine r_bipush (pc := 295) (v := 7) dL_refuses_295 (by decide) ?_
                                  refine r_iload (pc := 297) dL_refuses_297 rfl ?_
                                  refine r_iconst (pc := 299) (v := 0) dL_refuses_299 (by decide) ?_
                                  refine r_iconst (pc := 300) (v := 0) dL_refuses_300 (by decide) ?_
                                  obtain ⟨s68, x69, q70, eq70, kq70, h⟩ := gCN_some h
                                  refine r_callA (pc := 301) [.ref _, .int _, .int _, .int _, .int _] (taL_call _ hlt _ _ hF _ _ _ _ _ _ _ q70 h1) cd_L_call wL_190 nm_L_call rfl (by rw [hRm]; decide) rfl (Nat.le_of_ble_eq_true rfl) dL_refuses_301 hB eq70 kq70 hI (fun _ hI => ?_)
                                  refine r_ldc (pc := 304) (v := (-9999001)) dL_refuses_304 cL_15 ?_
                                  refine r_icmp_ne (pc := 306) (tgt := 1081) dL_refuses_306 (by decide) h (fun h => ?_) (fun h => ?_)
                                  · refine r_iconst (pc := 1081) (v := 0) dL_refuses_1081 (by decide) ?_
                                    exact r_mask [true, false, true, false, false, false, true, false] rfl (hJ25 _ _ h _ hI)
                                  · refine r_aload_n (pc := 309) dL_refuses_309 rfl rfl ?_
                                    refine r_bipush (pc := 310) (v := 8) dL_refuses_310 (by decide) ?_
                                    refine r_iconst (pc := 312) (v := 5) dL_refuses_312 (by decide) ?_
                                    refine r_iload_n (pc := 313) dL_refuses_313 rfl rfl ?_
                                    refine r_bipush (pc := 314) (v := 9) dL_refuses_314 (by decide) ?_
                                    refine r_iremc (pc := 316) dL_refuses_316 (by decide) ?_
                                    refine r_iadd (pc := 317) dL_refuses_317 ?_
                                    refine r_iconst (pc := 318) (v := 0) dL_refuses_318 (by decide) ?_
                                    refine r_iconst (pc := 319) (v := 0) dL_refuses_319 (by decide) ?_
                                    obtain ⟨s71, x72, q73, eq73, kq73, h⟩ := gCN_some h
                                    refine r_callA (pc := 320) [.ref _, .int _, .int _, .int _, .int _] (taL_call _ hlt _ _ hF _ _ _ _ _ _ _ q73 h1) cd_L_call wL_190 nm_L_call rfl (by rw [hRm]; decide) rfl (Nat.le_of_ble_eq_true rfl) dL_refuses_320 hB eq73 kq73 hI (fun _ hI => ?_)
                                    refine r_ldc (pc := 323) (v := (-9999002)) dL_refuses_323 cL_18 ?_
                                    refine r_icmp_ne (pc := 325) (tgt := 1081) dL_refuses_325 (by decide) h (fun h => ?_) (fun h => ?_)
                                    · refine r_iconst (pc := 1081) (v := 0) dL_refuses_1081 (by decide) ?_
                                      exact r_mask [true, false, true, false, false, false, true, false] rfl (hJ25 _ _ h _ hI)
                                    · refine r_aload_n (pc := 328) dL_refuses_328 rfl rfl ?_
                                      refine r_iload_n (pc := 329) dL_refuses_329 rfl rfl ?_
                                      refine r_iconst (pc := 330) (v := 0) dL_refuses_330 (by decide) ?_
                                      refine r_iconst (pc := 331) (v := 0) dL_refuses_331 (by decide) ?_
                                      refine r_iconst (pc := 332) (v := 0) dL_refuses_332 (by decide) ?_
                                      obtain ⟨s74, x75, q76, eq76, kq76, h⟩ := gCN_some h
                                      refine r_callAW (pc := 333) [.ref _, .int _, .int _, .int _, .int _] (taL_dues _ hlt _ _ hF _ _ _ _ _ _ _ q76 h1) cd_L_dues wL_194 nm_L_dues rfl (by rw [hRm]; decide) rfl (Nat.le_of_ble_eq_true rfl) dL_refuses_333 hB eq76 kq76 hI (fun _ hI => ?_)
                                      refine r_ldc (pc := 336) (v := (-9999001)) dL_refuses_336 cL_15 ?_
                                      refine r_icmp_ne (pc := 338) (tgt := 1081) dL_refuses_338 (by decide) h (fun h => ?_) (fun h => ?_)
                                      · refine r_iconst (pc := 1081) (v := 0) dL_refuses_1081 (by decide) ?_
                                        exact r_mask [true, false, true, false, false, false, true, false] rfl (hJ25 _ _ h _ hI)
                                      · refine r_aload_n (pc := 341) dL_refuses_341 rfl rfl ?_
                                        refine r_iconst (pc := 342) (v := 0) dL_refuses_342 (by decide) ?_
                                        refine r_iload_n (pc := 343) dL_refuses_343 rfl rfl ?_
                                        refine r_iconst (pc := 344) (v := 2) dL_refuses_344 (by decide) ?_
                                        refine r_iremc (pc := 345) dL_refuses_345 (by decide) ?_
                                        refine r_jn1 h (fun x77 => AL gI2 Y cL_refuses RL 361 [some (.ref a1), some (.int p2), some (.int x2), some (.int x4), some (.int x7), some (.int x10), some (.int x14), none] [.int x77, .int 0, .ref a1] s74) (fun x77 h => ?_) (fun hJ78 => ?_)
                                        · intro _ hI
                                          refine r_iconst (pc := 361) (v := 0) dL_refuses_361 (by decide) ?_
                                          refine r_iconst (pc := 362) (v := 0) dL_refuses_362 (by decide) ?_
                                          obtain ⟨s80, x81, q82, eq82, kq82, h⟩ := gCN_some h
                                          refine r_callAW (pc := 363) [.ref _, .int _, .int _, .int _, .int _] (taL_dues _ hlt _ _ hF _ _ _ _ _ _ _ q82 h1) cd_L_dues wL_194 nm_L_dues rfl (by rw [hRm]; decide) rfl (Nat.le_of_ble_eq_true rfl) dL_refuses_363 hB eq82 kq82 hI (fun _ hI => ?_)
                                          refine r_ldc (pc := 366) (v := (-9999002)) dL_refuses_366 cL_18 ?_
                                          refine r_icmp_ne (pc := 368) (tgt := 1081) dL_refuses_368 (by decide) h (fun h => ?_) (fun h => ?_)
                                          · refine r_iconst (pc := 1081) (v := 0) dL_refuses_1081 (by decide) ?_
                                            exact r_mask [true, false, true, false, false, false, true, false] rfl (hJ25 _ _ h _ hI)
                                          · refine r_aload_n (pc := 371) dL_refuses_371 rfl rfl ?_
                                            refine r_iconst (pc := 372) (v := 0) dL_refuses_372 (by decide) ?_
                                            refine r_iconst (pc := 373) (v := 0) dL_refuses_373 (by decide) ?_
                                            refine r_iload_n (pc := 374) dL_refuses_374 rfl rfl ?_
                                            refine r_iconst (pc := 375) (v := 2) dL_refuses_375 (by decide) ?_
                                            refine r_iremc (pc := 376) dL_refuses_376 (by decide) ?_
                                            refine r_jn1 h (fun x83 => AL gI2 Y cL_refuses RL 392 [some (.ref a1), some (.int p2), some (.int x2), some (.int x4), some (.int x7), some (.int x10), some (.int x14), none] [.int x83, .int 0, .int 0, .ref a1] s80) (fun x83 h => ?_) (fun hJ84 => ?_)
                                            · intro _ hI
                                              refine r_iconst (pc := 392) (v := 0) dL_refuses_392 (by decide) ?_
                                              obtain ⟨s86, x87, q88, eq88, kq88, h⟩ := gCN_some h
                                              refine r_callAW (pc := 393) [.ref _, .int _, .int _, .int _, .int _] (taL_dues _ hlt _ _ hF _ _ _ _ _ _ _ q88 h1) cd_L_dues wL_194 nm_L_dues rfl (by rw [hRm]; decide) rfl (Nat.le_of_ble_eq_true rfl) dL_refuses_393 hB eq88 kq88 hI (fun _ hI => ?_)
                                              refine r_ldc (pc := 396) (v := (-9999002)) dL_refuses_396 cL_18 ?_
                                              refine r_icmp_ne (pc := 398) (tgt := 1081) dL_refuses_398 (by decide) h (fun h => ?_) (fun h => ?_)
                                              · refine r_iconst (pc := 1081) (v := 0) dL_refuses_1081 (by decide) ?_
                                                exact r_mask [true, false, true, false, false, false, true, false] rfl (hJ25 _ _ h _ hI)
                                              · refine r_aload_n (pc := 401) dL_refuses_401 rfl rfl ?_
                                                refine r_iconst (pc := 402) (v := 0) dL_refuses_402 (by decide) ?_
                                                refine r_iconst (pc := 403) (v := 0) dL_refuses_403 (by decide) ?_
                                                refine r_iconst (pc := 404) (v := 0) dL_refuses_404 (by decide) ?_
                                                refine r_iconst (pc := 405) (v := 2) dL_refuses_405 (by decide) ?_
                                                refine r_iload_n (pc := 406) dL_refuses_406 rfl rfl ?_
                                                refine r_bipush (pc := 407) (v := 9) dL_refuses_407 (by decide) ?_
                                                refine r_iremc (pc := 409) dL_refuses_409 (by decide) ?_
                                                refine r_iadd (pc := 410) dL_refuses_410 ?_
                                                obtain ⟨s89, x90, q91, eq91, kq91, h⟩ := gCN_some h
                                                refine r_callAW (pc := 411) [.ref _, .int _, .int _, .int _, .int _] (taL_dues _ hlt _ _ hF _ _ _ _ _ _ _ q91 h1) cd_L_dues wL_194 nm_L_dues rfl (by rw [hRm]; decide) rfl (Nat.le_of_ble_eq_true rfl) dL_refuses_411 hB eq91 kq91 hI (fun _ hI => ?_)
                                                refine r_ldc (pc := 414) (v := (-9999002)) dL_refuses_414 cL_18 ?_
                                                refine r_icmp_ne (pc := 416) (tgt := 1081) dL_refuses_416 (by decide) h (fun h => ?_) (fun h => ?_)
                                                · refine r_iconst (pc := 1081) (v := 0) dL_refuses_1081 (by decide) ?_
                                                  exact r_mask [true, false, true, false, false, false, true, false] rfl (hJ25 _ _ h _ hI)
                                                · refine r_aload_n (pc := 419) dL_refuses_419 rfl rfl ?_
                                                  refine r_bipush (pc := 420) (v := 9) dL_refuses_420 (by decide) ?_
                                                  refine r_iload (pc := 422) dL_refuses_422 rfl ?_
                                                  refine r_iconst (pc := 424) (v := 0) dL_refuses_424 (by decide) ?_
                                                  refine r_iconst (pc := 425) (v := 0) dL_refuses_425 (by decide) ?_
                                                  obtain ⟨s92, x93, q94, eq94, kq94, h⟩ := gCN_some h
                                                  refine r_callA (pc := 426) [.ref _, .int _, .int _, .int _, .int _] (taL_call _ hlt _ _ hF _ _ _ _ _ _ _ q94 h1) cd_L_call wL_190 nm_L_call rfl (by rw [hRm]; decide) rfl (Nat.le_of_ble_eq_true rfl) dL_refuses_426 hB eq94 kq94 hI (fun _ hI => ?_)
                                                  refine r_ldc (pc := 429) (v := (-9999001)) dL_refuses_429 cL_15 ?_
                                                  refine r_icmp_ne (pc := 431) (tgt := 1081) dL_refuses_431 (by decide) h (fun h => ?_) (fun h => ?_)
                                                  · refine r_iconst (pc := 1081) (v := 0) dL_refuses_1081 (by decide) ?_
                                                    exact r_mask [true, false, true, false, false, false, true, false] rfl (hJ25 _ _ h _ hI)
                                                  · refine r_aload_n (pc := 434) dL_refuses_434 rfl rfl ?_
                                                    refine r_bipush (pc := 435) (v := 9) dL_refuses_435 (by decide) ?_
                                                    refine r_iconst (pc := 437) (v := 0) dL_refuses_437 (by decide) ?_
                                                    refine r_iload_n (pc := 438) dL_refuses_438 rfl rfl ?_
                                                    refine r_iconst (pc := 439) (v := 2) dL_refuses_439 (by decide) ?_
                                                    refine r_iremc (pc := 440) dL_refuses_440 (by decide) ?_
                                                    refine r_jn1 h (fun x95 => AL gI2 Y cL_refuses RL 460 [some (.ref a1), some (.int p2), some (.int x2), some (.int x4), some (.int x7), some (.int x10), some (.int x14), none] [.int x95, .int 0, .int 9, .ref a1] s92) (fun x95 h => ?_) (fun hJ96 => ?_)
                                                    · intro _ hI
                                                      refine r_iconst (pc := 460) (v := 0) dL_refuses_460 (by decide) ?_
                                                      obtain ⟨s98, x99, q100, eq100, kq100, h⟩ := gCN_some h
                                                      refine r_callA (pc := 461) [.ref _, .int _, .int _, .int _, .int _] (taL_call _ hlt _ _ hF _ _ _ _ _ _ _ q100 h1) cd_L_call wL_190 nm_L_call rfl (by rw [hRm]; decide) rfl (Nat.le_of_ble_eq_true rfl) dL_refuses_461 hB eq100 kq100 hI (fun _ hI => ?_)
                                                      refine r_ldc (pc := 464) (v := (-9999002)) dL_refuses_464 cL_18 ?_
                                                      refine r_icmp_ne (pc := 466) (tgt := 1081) dL_refuses_466 (by decide) h (fun h => ?_) (fun h => ?_)
                                                      · refine r_iconst (pc := 1081) (v := 0) dL_refuses_1081 (by decide) ?_
                                                        exact r_mask [true, false, true, false, false, false, true, false] rfl (hJ25 _ _ h _ hI)
                                                      · refine r_aload_n (pc := 469) dL_refuses_469 rfl rfl ?_
                                                        refine r_bipush (pc := 470) (v := 10) dL_refuses_470 (by decide) ?_
                                                        refine r_iload_n (pc := 472) dL_refuses_472 rfl rfl ?_
                                                        refine r_iconst (pc := 473) (v := 0) dL_refuses_473 (by decide) ?_
                                                        refine r_iconst (pc := 474) (v := 0) dL_refuses_474 (by decide) ?_
                                                        obtain ⟨s101, x102, q103, eq103, kq103, h⟩ := gCN_some h
                                                        refine r_callA (pc := 475) [.ref _, .int _, .int _, .int _, .int _] (taL_call _ hlt _ _ hF _ _ _ _ _ _ _ q103 h1) cd_L_call wL_190 nm_L_call rfl (by rw [hRm]; decide) rfl (Nat.le_of_ble_eq_true rfl) dL_refuses_475 hB eq103 kq103 hI (fun _ hI => ?_)
                                                        refine r_ldc (pc := 478) (v := (-9999001)) dL_refuses_478 cL_15 ?_
                                                        refine r_icmp_ne (pc := 480) (tgt := 1081) dL_refuses_480 (by decide) h (fun h => ?_) (fun h => ?_)
                                                        · refine r_iconst (pc := 1081) (v := 0) dL_refuses_1081 (by decide) ?_
                                                          exact r_mask [true, false, true, false, false, false, true, false] rfl (hJ25 _ _ h _ hI)
                                                        · refine r_aload_n (pc := 483) dL_refuses_483 rfl rfl ?_
                                                          refine r_bipush (pc := 484) (v := 10) dL_refuses_484 (by decide) ?_
                                                          refine r_iconst (pc := 486) (v := 0) dL_refuses_486 (by decide) ?_
                                                          refine r_iload (pc := 487) dL_refuses_487 rfl ?_
                                                          refine r_iconst (pc := 489) (v := 0) dL_refuses_489 (by decide) ?_
                                                          obtain ⟨s104, x105, q106, eq106, kq106, h⟩ := gCN_some h
                                                          refine r_callA (pc := 490) [.ref _, .int _, .int _, .int _, .int _] (taL_call _ hlt _ _ hF _ _ _ _ _ _ _ q106 h1) cd_L_call wL_190 nm_L_call rfl (by rw [hRm]; decide) rfl (Nat.le_of_ble_eq_true rfl) dL_refuses_490 hB eq106 kq106 hI (fun _ hI => ?_)
                                                          refine r_ldc (pc := 493) (v := (-9999001)) dL_refuses_493 cL_15 ?_
                                                          refine r_icmp_ne (pc := 495) (tgt := 1081) dL_refuses_495 (by decide) h (fun h => ?_) (fun h => ?_)
                                                          · refine r_iconst (pc := 1081) (v := 0) dL_refuses_1081 (by decide) ?_
                                                            exact r_mask [true, false, true, false, false, false, true, false] rfl (hJ25 _ _ h _ hI)
                                                          · refine r_aload_n (pc := 498) dL_refuses_498 rfl rfl ?_
                                                            refine r_bipush (pc := 499) (v := 10) dL_refuses_499 (by decide) ?_
                                                            refine r_iconst (pc := 501) (v := 0) dL_refuses_501 (by decide) ?_
                                                            refine r_iconst (pc := 502) (v := 0) dL_refuses_502 (by decide) ?_
                                                            refine r_iload_n (pc := 503) dL_refuses_503 rfl rfl ?_
                                                            refine r_iconst (pc := 504) (v := 2) dL_refuses_504 (by decide) ?_
                                                            refine r_iremc (pc := 505) dL_refuses_505 (by decide) ?_
                                                            refine r_jn1 h (fun x107 => AL gI2 Y cL_refuses RL 520 [some (.ref a1), some (.int p2), some (.int x2), some (.int x4), some (.int x7), some (.int x10), some (.int x14), none] [.int x107, .int 0, .int 0, .int 10, .ref a1] s104) (fun x107 h => ?_) (fun hJ108 => ?_)
                                                            · intro _ hI
                                                              obtain ⟨s110, x111, q112, eq112, kq112, h⟩ := gCN_some h
                                                              refine r_callA (pc := 520) [.ref _, .int _, .int _, .int _, .int _] (taL_call _ hlt _ _ hF _ _ _ _ _ _ _ q112 h1) cd_L_call wL_190 nm_L_call rfl (by rw [hRm]; decide) rfl (Nat.le_of_ble_eq_true rfl) dL_refuses_520 hB eq112 kq112 hI (fun _ hI => ?_)
                                                              refine r_ldc (pc := 523) (v := (-9999002)) dL_refuses_523 cL_18 ?_
                                                              refine r_icmp_ne (pc := 525) (tgt := 1081) dL_refuses_525 (by decide) h (fun h => ?_) (fun h => ?_)
                                                              · refine r_iconst (pc := 1081) (v := 0) dL_refuses_1081 (by decide) ?_
                                                                exact r_mask [true, false, true, false, false, false, true, false] rfl (hJ25 _ _ h _ hI)
                                                              · refine r_aload_n (pc := 528) dL_refuses_528 rfl rfl ?_
                                                                refine r_bipush (pc := 529) (v := 11) dL_refuses_529 (by decide) ?_
                                                                refine r_iload_n (pc := 531) dL_refuses_531 rfl rfl ?_
                                                                refine r_iconst (pc := 532) (v := 5) dL_refuses_532 (by decide) ?_
                                                                refine r_iconst (pc := 533) (v := 5) dL_refuses_533 (by decide) ?_
                                                                obtain ⟨s113, x114, q115, eq115, kq115, h⟩ := gCN_some h
                                                                refine r_callA (pc := 534) [.ref _, .int _, .int _, .int _, .int _] (taL_call _ hlt _ _ hF _ _ _ _ _ _ _ q115 h1) cd_L_call wL_190 nm_L_call rfl (by rw [hRm]; decide) rfl (Nat.le_of_ble_eq_true rfl) dL_refuses_534 hB eq115 kq115 hI (fun _ hI => ?_)
                                                                refine r_ldc (pc := 537) (v := (-9999001)) dL_refuses_537 cL_15 ?_
                                                                refine r_icmp_ne (pc := 539) (tgt := 1081) dL_refuses_539 (by decide) h (fun h => ?_) (fun h => ?_)
                                                                · refine r_iconst (pc := 1081) (v := 0) dL_refuses_1081 (by decide) ?_
                                                                  exact r_mask [true, false, true, false, false, false, true, false] rfl (hJ25 _ _ h _ hI)
                                                                · refine r_aload_n (pc := 542) dL_refuses_542 rfl rfl ?_
                                                                  refine r_bipush (pc := 543) (v := 11) dL_refuses_543 (by decide) ?_
                                                                  refine r_iconst (pc := 545) (v := 0) dL_refuses_545 (by decide) ?_
                                                                  refine r_iload_n (pc := 546) dL_refuses_546 rfl rfl ?_
                                                                  refine r_iconst (pc := 547) (v := 2) dL_refuses_547 (by decide) ?_
                                                                  refine r_iremc (pc := 548) dL_refuses_548 (by decide) ?_
                                                                  refine r_jn1 h (fun x116 => AL gI2 Y cL_refuses RL 564 [some (.ref a1), some (.int p2), some (.int x2), some (.int x4), some (.int x7), some (.int x10), some (.int x14), none] [.int x116, .int 0, .int 11, .ref a1] s113) (fun x116 h => ?_) (fun hJ117 => ?_)
                                                                  · intro _ hI
                                                                    refine r_sipush (pc := 564) (v := 1000) dL_refuses_564 (by decide) ?_
                                                                    obtain ⟨s119, x120, q121, eq121, kq121, h⟩ := gCN_some h
                                                                    refine r_callA (pc := 567) [.ref _, .int _, .int _, .int _, .int _] (taL_call _ hlt _ _ hF _ _ _ _ _ _ _ q121 h1) cd_L_call wL_190 nm_L_call rfl (by rw [hRm]; decide) rfl (Nat.le_of_ble_eq_true rfl) dL_refuses_567 hB eq121 kq121 hI (fun _ hI => ?_)
                                                                    refine r_ldc (pc := 570) (v := (-9999002)) dL_refuses_570 cL_18 ?_
                                                                    refine r_icmp_ne (pc := 572) (tgt := 1081) dL_refuses_572 (by decide) h (fun h => ?_) (fun h => ?_)
                                                                    · refine r_iconst (pc := 1081) (v := 0) dL_refuses_1081 (by decide) ?_
                                                                      exact r_mask [true, false, true, false, false, false, true, false] rfl (hJ25 _ _ h _ hI)
                                                                    · refine r_aload_n (pc := 575) dL_refuses_575 rfl rfl ?_
                                                                      refine r_bipush (pc := 576) (v := 11) dL_refuses_576 (by decide) ?_
                                                                      refine r_iconst (pc := 578) (v := 0) dL_refuses_578 (by decide) ?_
                                                                      refine r_iconst (pc := 579) (v := 5) dL_refuses_579 (by decide) ?_
                                                                      refine r_iload_n (pc := 580) dL_refuses_580 rfl rfl ?_
                                                                      refine r_iconst (pc := 581) (v := 2) dL_refuses_581 (by decide) ?_
                                                                      refine r_iremc (pc := 582) dL_refuses_582 (by decide) ?_
                                                                      refine r_jn1 h (fun x122 => AL gI2 Y cL_refuses RL 598 [some (.ref a1), some (.int p2), some (.int x2), some (.int x4), some (.int x7), some (.int x10), some (.int x14), none] [.int x122, .int 5, .int 0, .int 11, .ref a1] s119) (fun x122 h => ?_) (fun hJ123 => ?_)
                                                                      · intro _ hI
                                                                        obtain ⟨s125, x126, q127, eq127, kq127, h⟩ := gCN_some h
                                                                        refine r_callA (pc := 598) [.ref _, .int _, .int _, .int _, .int _] (taL_call _ hlt _ _ hF _ _ _ _ _ _ _ q127 h1) cd_L_call wL_190 nm_L_call rfl (by rw [hRm]; decide) rfl (Nat.le_of_ble_eq_true rfl) dL_refuses_598 hB eq127 kq127 hI (fun _ hI => ?_)
                                                                        refine r_ldc (pc := 601) (v := (-9999002)) dL_refuses_601 cL_18 ?_
                                                                        refine r_icmp_ne (pc := 603) (tgt := 1081) dL_refuses_603 (by decide) h (fun h => ?_) (fun h => ?_)
                                                                        · refine r_iconst (pc := 1081) (v := 0) dL_refuses_1081 (by decide) ?_
                                                                          exact r_mask [true, false, true, false, false, false, true, false] rfl (hJ25 _ _ h _ hI)
                                                                        · refine r_aload_n (pc := 606) dL_refuses_606 rfl rfl ?_
                                                                          refine r_bipush (pc := 607) (v := 12) dL_refuses_607 (by decide) ?_
                                                                          refine r_iload_n (pc := 609) dL_refuses_609 rfl rfl ?_
                                                                          refine r_iconst (pc := 610) (v := 0) dL_refuses_610 (by decide) ?_
                                                                          refine r_iconst (pc := 611) (v := 0) dL_refuses_611 (by decide) ?_
                                                                          obtain ⟨s128, x129, q130, eq130, kq130, h⟩ := gCN_some h
                                                                          refine r_callA (pc := 612) [.ref _, .int _, .int _, .int _, .int _] (taL_call _ hlt _ _ hF _ _ _ _ _ _ _ q130 h1) cd_L_call wL_190 nm_L_call rfl (by rw [hRm]; decide) rfl (Nat.le_of_ble_eq_true rfl) dL_refuses_612 hB eq130 kq130 hI (fun _ hI => ?_)
                                                                          refine r_ldc (pc := 615) (v := (-9999001)) dL_refuses_615 cL_15 ?_
                                                                          refine r_icmp_ne (pc := 617) (tgt := 1081) dL_refuses_617 (by decide) h (fun h => ?_) (fun h => ?_)
                                                                          · refine r_iconst (pc := 1081) (v := 0) dL_refuses_1081 (by decide) ?_
                                                                            exact r_mask [true, false, true, false, false, false, true, false] rfl (hJ25 _ _ h _ hI)
                                                                          · refine r_aload_n (pc := 620) dL_refuses_620 rfl rfl ?_
                                                                            refine r_bipush (pc := 621) (v := 12) dL_refuses_621 (by decide) ?_
                                                                            refine r_iconst (pc := 623) (v := 0) dL_refuses_623 (by decide) ?_
                                                                            refine r_iload_n (pc := 624) dL_refuses_624 rfl rfl ?_
                                                                            refine r_iconst (pc := 625) (v := 2) dL_refuses_625 (by decide) ?_
                                                                            refine r_iremc (pc := 626) dL_refuses_626 (by decide) ?_
                                                                            refine r_jn1 h (fun x131 => AL gI2 Y cL_refuses RL 641 [some (.ref a1), some (.int p2), some (.int x2), some (.int x4), some (.int x7), some (.int x10), some (.int x14), none] [.int x131, .int 0, .int 12, .ref a1] s128) (fun x131 h => ?_) (fun hJ132 => ?_)
                                                                            · intro _ hI
                                                                              refine r_iconst (pc := 641) (v := 0) dL_refuses_641 (by decide) ?_
                                                                              obtain ⟨s134, x135, q136, eq136, kq136, h⟩ := gCN_some h
                                                                              refine r_callA (pc := 642) [.ref _, .int _, .int _, .int _, .int _] (taL_call _ hlt _ _ hF _ _ _ _ _ _ _ q136 h1) cd_L_call wL_190 nm_L_call rfl (by rw [hRm]; decide) rfl (Nat.le_of_ble_eq_true rfl) dL_refuses_642 hB eq136 kq136 hI (fun _ hI => ?_)
                                                                              refine r_ldc (pc := 645) (v := (-9999001)) dL_refuses_645 cL_15 ?_
                                                                              refine r_icmp_ne (pc := 647) (tgt := 1081) dL_refuses_647 (by decide) h (fun h => ?_) (fun h => ?_)
                                                                              · refine r_iconst (pc := 1081) (v := 0) dL_refuses_1081 (by decide) ?_
                                                                                exact r_mask [true, false, true, false, false, false, true, false] rfl (hJ25 _ _ h _ hI)
                                                                              · refine r_aload_n (pc := 650) dL_refuses_650 rfl rfl ?_
                                                                                refine r_iload (pc := 651) dL_refuses_651 rfl ?_
                                                                                refine r_iconst (pc := 653) (v := 0) dL_refuses_653 (by decide) ?_
                                                                                refine r_iconst (pc := 654) (v := 1) dL_refuses_654 (by decide) ?_
                                                                                obtain ⟨s137, x138, q139, eq139, kq139, h⟩ := gCN_some h
                                                                                refine r_callAW (pc := 655) [.ref _, .int _, .int _, .int _] (taL_closes _ hlt _ _ hF _ _ _ _ _ _ q139 h1) cd_L_closes wL_198 nm_L_closes rfl (by rw [hRm]; decide) rfl (Nat.le_of_ble_eq_true rfl) dL_refuses_655 hB eq139 kq139 hI (fun _ hI => ?_)
                                                                                refine r_ldc (pc := 658) (v := (-9999001)) dL_refuses_658 cL_15 ?_
                                                                                refine r_icmp_ne (pc := 660) (tgt := 1081) dL_refuses_660 (by decide) h (fun h => ?_) (fun h => ?_)
                                                                                · refine r_iconst (pc := 1081) (v := 0) dL_refuses_1081 (by decide) ?_
                                                                                  exact r_mask [true, false, true, false, false, false, true, false] rfl (hJ25 _ _ h _ hI)
                                                                                · refine r_aload_n (pc := 663) dL_refuses_663 rfl rfl ?_
                                                                                  refine r_iconst (pc := 664) (v := 0) dL_refuses_664 (by decide) ?_
                                                                                  refine r_iload (pc := 665) dL_refuses_665 rfl ?_
                                                                                  refine r_iconst (pc := 667) (v := 0) dL_refuses_667 (by decide) ?_
                                                                                  obtain ⟨s140, x141, q142, eq142, kq142, h⟩ := gCN_some h
                                                                                  refine r_callAW (pc := 668) [.ref _, .int _, .int _, .int _] (taL_closes _ hlt _ _ hF _ _ _ _ _ _ q142 h1) cd_L_closes wL_198 nm_L_closes rfl (by rw [hRm]; decide) rfl (Nat.le_of_ble_eq_true rfl) dL_refuses_668 hB eq142 kq142 hI (fun _ hI => ?_)
                                                                                  refine r_ldc (pc := 671) (v := (-9999001)) dL_refuses_671 cL_15 ?_
                                                                                  refine r_icmp_ne (pc := 673) (tgt := 1081) dL_refuses_673 (by decide) h (fun h => ?_) (fun h => ?_)
                                                                                  · refine r_iconst (pc := 1081) (v := 0) dL_refuses_1081 (by decide) ?_
                                                                                    exact r_mask [true, false, true, false, false, false, true, false] rfl (hJ25 _ _ h _ hI)
                                                                                  · refine r_aload_n (pc := 676) dL_refuses_676 rfl rfl ?_
                                                                                    refine r_bipush (pc := 677) (v := 13) dL_refuses_677 (by decide) ?_
                                                                                    refine r_iload (pc := 679) dL_refuses_679 rfl ?_
                                                                                    refine r_iconst (pc := 681) (v := 0) dL_refuses_681 (by decide) ?_
                                                                                    refine r_iconst (pc := 682) (v := 0) dL_refuses_682 (by decide) ?_
                                                                                    obtain ⟨s143, x144, q145, eq145, kq145, h⟩ := gCN_some h
                                                                                    refine r_callA (pc := 683) [.ref _, .int _, .int _, .int _, .int _] (taL_call _ hlt _ _ hF _ _ _ _ _ _ _ q145 h1) cd_L_call wL_190 nm_L_call rfl (by rw [hRm]; decide) rfl (Nat.le_of_ble_eq_true rfl) dL_refuses_683 hB eq145 kq145 hI (fun _ hI => ?_)
                                                                                    refine r_ldc (pc := 686) (v := (-9999001)) dL_refuses_686 cL_15 ?_
                                                                                    refine r_icmp_ne (pc := 688) (tgt := 1081) dL_refuses_688 (by decide) h (fun h => ?_) (fun h => ?_)
                                                                                    · refine r_iconst (pc := 1081) (v := 0) dL_refuses_1081 (by decide) ?_
                                                                                      exact r_mask [true, false, true, false, false, false, true, false] rfl (hJ25 _ _ h _ hI)
                                                                                    · refine r_aload_n (pc := 691) dL_refuses_691 rfl rfl ?_
                                                                                      refine r_bipush (pc := 692) (v := 13) dL_refuses_692 (by decide) ?_
                                                                                      refine r_iconst (pc := 694) (v := 0) dL_refuses_694 (by decide) ?_
                                                                                      refine r_iload (pc := 695) dL_refuses_695 rfl ?_
                                                                                      refine r_iconst (pc := 697) (v := 0) dL_refuses_697 (by decide) ?_
                                                                                      obtain ⟨s146, x147, q148, eq148, kq148, h⟩ := gCN_some h
                                                                                      refine r_callA (pc := 698) [.ref _, .int _, .int _, .int _, .int _] (taL_call _ hlt _ _ hF _ _ _ _ _ _ _ q148 h1) cd_L_call wL_190 nm_L_call rfl (by rw [hRm]; decide) rfl (Nat.le_of_ble_eq_true rfl) dL_refuses_698 hB eq148 kq148 hI (fun _ hI => ?_)
                                                                                      refine r_ldc (pc := 701) (v := (-9999001)) dL_refuses_701 cL_15 ?_
                                                                                      refine r_icmp_ne (pc := 703) (tgt := 1081) dL_refuses_703 (by decide) h (fun h => ?_) (fun h => ?_)
                                                                                      · refine r_iconst (pc := 1081) (v := 0) dL_refuses_1081 (by decide) ?_
                                                                                        exact r_mask [true, false, true, false, false, false, true, false] rfl (hJ25 _ _ h _ hI)
                                                                                      · refine r_aload_n (pc := 706) dL_refuses_706 rfl rfl ?_
                                                                                        refine r_bipush (pc := 707) (v := 14) dL_refuses_707 (by decide) ?_
                                                                                        refine r_iconst (pc := 709) (v := 0) dL_refuses_709 (by decide) ?_
                                                                                        refine r_iload_n (pc := 710) dL_refuses_710 rfl rfl ?_
                                                                                        refine r_iconst (pc := 711) (v := 2) dL_refuses_711 (by decide) ?_
                                                                                        refine r_iremc (pc := 712) dL_refuses_712 (by decide) ?_
                                                                                        refine r_jn1 h (fun x149 => AL gI2 Y cL_refuses RL 727 [some (.ref a1), some (.int p2), some (.int x2), some (.int x4), none, none, some (.int x14), none] [.int x149, .int 0, .int 14, .ref a1] s146) (fun x149 h => ?_) (fun hJ150 => ?_)
                                                                                        · intro _ hI
                                                                                          refine r_iconst (pc := 727) (v := 0) dL_refuses_727 (by decide) ?_
                                                                                          obtain ⟨s152, x153, q154, eq154, kq154, h⟩ := gCN_some h
                                                                                          refine r_callA (pc := 728) [.ref _, .int _, .int _, .int _, .int _] (taL_call _ hlt _ _ hF _ _ _ _ _ _ _ q154 h1) cd_L_call wL_190 nm_L_call rfl (by rw [hRm]; decide) rfl (Nat.le_of_ble_eq_true rfl) dL_refuses_728 hB eq154 kq154 hI (fun _ hI => ?_)
                                                                                          refine r_ldc (pc := 731) (v := (-9999002)) dL_refuses_731 cL_18 ?_
                                                                                          refine r_icmp_ne (pc := 733) (tgt := 1081) dL_refuses_733 (by decide) h (fun h => ?_) (fun h => ?_)
                                                                                          · refine r_iconst (pc := 1081) (v := 0) dL_refuses_1081 (by decide) ?_
                                                                                            exact r_mask [true, false, true, false, false, false, true, false] rfl (hJ25 _ _ h _ hI)
                                                                                          · refine r_aload_n (pc := 736) dL_refuses_736 rfl rfl ?_
                                                                                            refine r_bipush (pc := 737) (v := 14) dL_refuses_737 (by decide) ?_
                                                                                            refine r_iconst (pc := 739) (v := 1) dL_refuses_739 (by decide) ?_
                                                                                            refine r_iload_n (pc := 740) dL_refuses_740 rfl rfl ?_
                                                                                            refine r_iconst (pc := 741) (v := 2) dL_refuses_741 (by decide) ?_
                                                                                            refine r_iremc (pc := 742) dL_refuses_742 (by decide) ?_
                                                                                            refine r_iadd (pc := 743) dL_refuses_743 ?_
                                                                                            refine r_bipush (pc := 744) (v := 10) dL_refuses_744 (by decide) ?_
                                                                                            refine r_iload_n (pc := 746) dL_refuses_746 rfl rfl ?_
                                                                                            refine r_bipush (pc := 747) (v := 9) dL_refuses_747 (by decide) ?_
                                                                                            refine r_iremc (pc := 749) dL_refuses_749 (by decide) ?_
                                                                                            refine r_iadd (pc := 750) dL_refuses_750 ?_
                                                                                            refine r_iconst (pc := 751) (v := 0) dL_refuses_751 (by decide) ?_
                                                                                            obtain ⟨s155, x156, q157, eq157, kq157, h⟩ := gCN_some h
                                                                                            refine r_callA (pc := 752) [.ref _, .int _, .int _, .int _, .int _] (taL_call _ hlt _ _ hF _ _ _ _ _ _ _ q157 h1) cd_L_call wL_190 nm_L_call rfl (by rw [hRm]; decide) rfl (Nat.le_of_ble_eq_true rfl) dL_refuses_752 hB eq157 kq157 hI (fun _ hI => ?_)
                                                                                            refine r_ldc (pc := 755) (v := (-9999002)) dL_refuses_755 cL_18 ?_
                                                                                            refine r_icmp_ne (pc := 757) (tgt := 1081) dL_refuses_757 (by decide) h (fun h => ?_) (fun h => ?_)
                                                                                            · refine r_iconst (pc := 1081) (v := 0) dL_refuses_1081 (by decide) ?_
                                                                                              exact r_mask [true, false, true, false, false, false, true, false] rfl (hJ25 _ _ h _ hI)
                                                                                            · refine r_aload_n (pc := 760) dL_refuses_760 rfl rfl ?_
                                                                                              refine r_bipush (pc := 761) (v := 14) dL_refuses_761 (by decide) ?_
                                                                                              refine r_iconst (pc := 763) (v := 3) dL_refuses_763 (by decide) ?_
                                                                                              refine r_bipush (pc := 764) (v := 31) dL_refuses_764 (by decide) ?_
                                                                                              refine r_iload_n (pc := 766) dL_refuses_766 rfl rfl ?_
                                                                                              refine r_bipush (pc := 767) (v := 9) dL_refuses_767 (by decide) ?_
                                                                                              refine r_iremc (pc := 769) dL_refuses_769 (by decide) ?_
                                                                                              refine r_iadd (pc := 770) dL_refuses_770 ?_
                                                                                              refine r_iconst (pc := 771) (v := 0) dL_refuses_771 (by decide) ?_
                                                                                              obtain ⟨s158, x159, q160, eq160, kq160, h⟩ := gCN_some h
                                                                                              refine r_callA (pc := 772) [.ref _, .int _, .int _, .int _, .int _] (taL_call _ hlt _ _ hF _ _ _ _ _ _ _ q160 h1) cd_L_call wL_190 nm_L_call rfl (by rw [hRm]; decide) rfl (Nat.le_of_ble_eq_true rfl) dL_refuses_772 hB eq160 kq160 hI (fun _ hI => ?_)
                                                                                              refine r_ldc (pc := 775) (v := (-9999002)) dL_refuses_775 cL_18 ?_
                                                                                              refine r_icmp_ne (pc := 777) (tgt := 1081) dL_refuses_777 (by decide) h (fun h => ?_) (fun h => ?_)
                                                                                              · refine r_iconst (pc := 1081) (v := 0) dL_refuses_1081 (by decide) ?_
                                                                                                exact r_mask [true, false, true, false, false, false, true, false] rfl (hJ25 _ _ h _ hI)
                                                                                              · refine r_aload_n (pc := 780) dL_refuses_780 rfl rfl ?_
                                                                                                refine r_bipush (pc := 781) (v := 14) dL_refuses_781 (by decide) ?_
                                                                                                refine r_iconst (pc := 783) (v := 4) dL_refuses_783 (by decide) ?_
                                                                                                refine r_iload_n (pc := 784) dL_refuses_784 rfl rfl ?_
                                                                                                refine r_iconst (pc := 785) (v := 2) dL_refuses_785 (by decide) ?_
                                                                                                refine r_iremc (pc := 786) dL_refuses_786 (by decide) ?_
                                                                                                refine r_jn1 h (fun x161 => AL gI2 Y cL_refuses RL 801 [some (.ref a1), some (.int p2), some (.int x2), some (.int x4), none, none, some (.int x14), none] [.int x161, .int 4, .int 14, .ref a1] s158) (fun x161 h => ?_) (fun hJ162 => ?_)
                                                                                                · intro _ hI
                                                                                                  refine r_iconst (pc := 801) (v := 0) dL_refuses_801 (by decide) ?_
                                                                                                  obtain ⟨s164, x165, q166, eq166, kq166, h⟩ := gCN_some h
                                                                                                  refine r_callA (pc := 802) [.ref _, .int _, .int _, .int _, .int _] (taL_call _ hlt _ _ hF _ _ _ _ _ _ _ q166 h1) cd_L_call wL_190 nm_L_call rfl (by rw [hRm]; decide) rfl (Nat.le_of_ble_eq_true rfl) dL_refuses_802 hB eq166 kq166 hI (fun _ hI => ?_)
                                                                                                  refine r_ldc (pc := 805) (v := (-9999002)) dL_refuses_805 cL_18 ?_
                                                                                                  refine r_icmp_ne (pc := 807) (tgt := 1081) dL_refuses_807 (by decide) h (fun h => ?_) (fun h => ?_)
                                                                                                  · refine r_iconst (pc := 1081) (v := 0) dL_refuses_1081 (by decide) ?_
                                                                                                    exact r_mask [true, false, true, false, false, false, true, false] rfl (hJ25 _ _ h _ hI)
                                                                                                  · refine r_aload_n (pc := 810) dL_refuses_810 rfl rfl ?_
                                                                                                    refine r_bipush (pc := 811) (v := 14) dL_refuses_811 (by decide) ?_
                                                                                                    refine r_iconst (pc := 813) (v := 5) dL_refuses_813 (by decide) ?_
                                                                                                    refine r_iload_n (pc := 814) dL_refuses_814 rfl rfl ?_
                                                                                                    refine r_bipush (pc := 815) (v := 9) dL_refuses_815 (by decide) ?_
                                                                                                    refine r_iremc (pc := 817) dL_refuses_817 (by decide) ?_
                                                                                                    refine r_iadd (pc := 818) dL_refuses_818 ?_
                                                                                                    refine r_iconst (pc := 819) (v := 5) dL_refuses_819 (by decide) ?_
                                                                                                    refine r_iconst (pc := 820) (v := 0) dL_refuses_820 (by decide) ?_
                                                                                                    obtain ⟨s167, x168, q169, eq169, kq169, h⟩ := gCN_some h
                                                                                                    refine r_callA (pc := 821) [.ref _, .int _, .int _, .int _, .int _] (taL_call _ hlt _ _ hF _ _ _ _ _ _ _ q169 h1) cd_L_call wL_190 nm_L_call rfl (by rw [hRm]; decide) rfl (Nat.le_of_ble_eq_true rfl) dL_refuses_821 hB eq169 kq169 hI (fun _ hI => ?_)
                                                                                                    refine r_ldc (pc := 824) (v := (-9999002)) dL_refuses_824 cL_18 ?_
                                                                                                    refine r_icmp_ne (pc := 826) (tgt := 1081) dL_refuses_826 (by decide) h (fun h => ?_) (fun h => ?_)
                                                                                                    · refine r_iconst (pc := 1081) (v := 0) dL_refuses_1081 (by decide) ?_
                                                                                                      exact r_mask [true, false, true, false, false, false, true, false] rfl (hJ25 _ _ h _ hI)
                                                                                                    · refine r_aload_n (pc := 829) dL_refuses_829 rfl rfl ?_
                                                                                                      refine r_bipush (pc := 830) (v := 15) dL_refuses_830 (by decide) ?_
                                                                                                      refine r_iload_n (pc := 832) dL_refuses_832 rfl rfl ?_
                                                                                                      refine r_iconst (pc := 833) (v := 2) dL_refuses_833 (by decide) ?_
                                                                                                      refine r_iremc (pc := 834) dL_refuses_834 (by decide) ?_
                                                                                                      refine r_jn1 h (fun x170 => AL gI2 Y cL_refuses RL 849 [some (.ref a1), some (.int p2), some (.int x2), some (.int x4), none, none, some (.int x14), none] [.int x170, .int 15, .ref a1] s167) (fun x170 h => ?_) (fun hJ171 => ?_)
                                                                                                      · intro _ hI
                                                                                                        refine r_iconst (pc := 849) (v := 0) dL_refuses_849 (by decide) ?_
                                                                                                        refine r_iconst (pc := 850) (v := 0) dL_refuses_850 (by decide) ?_
                                                                                                        obtain ⟨s173, x174, q175, eq175, kq175, h⟩ := gCN_some h
                                                                                                        refine r_callA (pc := 851) [.ref _, .int _, .int _, .int _, .int _] (taL_call _ hlt _ _ hF _ _ _ _ _ _ _ q175 h1) cd_L_call wL_190 nm_L_call rfl (by rw [hRm]; decide) rfl (Nat.le_of_ble_eq_true rfl) dL_refuses_851 hB eq175 kq175 hI (fun _ hI => ?_)
                                                                                                        refine r_ldc (pc := 854) (v := (-9999002)) dL_refuses_854 cL_18 ?_
                                                                                                        refine r_icmp_ne (pc := 856) (tgt := 1081) dL_refuses_856 (by decide) h (fun h => ?_) (fun h => ?_)
                                                                                                        · refine r_iconst (pc := 1081) (v := 0) dL_refuses_1081 (by decide) ?_
                                                                                                          exact r_mask [true, false, true, false, false, false, true, false] rfl (hJ25 _ _ h _ hI)
                                                                                                        · refine r_aload_n (pc := 859) dL_refuses_859 rfl rfl ?_
                                                                                                          refine r_bipush (pc := 860) (v := 17) dL_refuses_860 (by decide) ?_
                                                                                                          refine r_iload_n (pc := 862) dL_refuses_862 rfl rfl ?_
                                                                                                          refine r_iconst (pc := 863) (v := 0) dL_refuses_863 (by decide) ?_
                                                                                                          refine r_iconst (pc := 864) (v := 0) dL_refuses_864 (by decide) ?_
                                                                                                          obtain ⟨s176, x177, q178, eq178, kq178, h⟩ := gCN_some h
                                                                                                          refine r_callA (pc := 865) [.ref _, .int _, .int _, .int _, .int _] (taL_call _ hlt _ _ hF _ _ _ _ _ _ _ q178 h1) cd_L_call wL_190 nm_L_call rfl (by rw [hRm]; decide) rfl (Nat.le_of_ble_eq_true rfl) dL_refuses_865 hB eq178 kq178 hI (fun _ hI => ?_)
                                                                                                          refine r_ldc (pc := 868) (v := (-9999001)) dL_refuses_868 cL_15 ?_
                                                                                                          refine r_icmp_ne (pc := 870) (tgt := 1081) dL_refuses_870 (by decide) h (fun h => ?_) (fun h => ?_)
                                                                                                          · refine r_iconst (pc := 1081) (v := 0) dL_refuses_1081 (by decide) ?_
                                                                                                            exact r_mask [true, false, true, false, false, false, true, false] rfl (hJ25 _ _ h _ hI)
                                                                                                          · refine r_aload_n (pc := 873) dL_refuses_873 rfl rfl ?_
                                                                                                            refine r_bipush (pc := 874) (v := 18) dL_refuses_874 (by decide) ?_
                                                                                                            refine r_iload_n (pc := 876) dL_refuses_876 rfl rfl ?_
                                                                                                            refine r_sipush (pc := 877) (v := 999) dL_refuses_877 (by decide) ?_
                                                                                                            refine r_iconst (pc := 880) (v := 0) dL_refuses_880 (by decide) ?_
                                                                                                            obtain ⟨s179, x180, q181, eq181, kq181, h⟩ := gCN_some h
                                                                                                            refine r_callA (pc := 881) [.ref _, .int _, .int _, .int _, .int _] (taL_call _ hlt _ _ hF _ _ _ _ _ _ _ q181 h1) cd_L_call wL_190 nm_L_call rfl (by rw [hRm]; decide) rfl (Nat.le_of_ble_eq_true rfl) dL_refuses_881 hB eq181 kq181 hI (fun _ hI => ?_)
                                                                                                            refine r_ldc (pc := 884) (v := (-9999001)) dL_refuses_884 cL_15 ?_
                                                                                                            refine r_icmp_ne (pc := 886) (tgt := 1081) dL_refuses_886 (by decide) h (fun h => ?_) (fun h => ?_)
                                                                                                            · refine r_iconst (pc := 1081) (v := 0) dL_refuses_1081 (by decide) ?_
                                                                                                              exact r_mask [true, false, true, false, false, false, true, false] rfl (hJ25 _ _ h _ hI)
                                                                                                            · refine r_aload_n (pc := 889) dL_refuses_889 rfl rfl ?_
                                                                                                              refine r_bipush (pc := 890) (v := 18) dL_refuses_890 (by decide) ?_
                                                                                                              refine r_iconst (pc := 892) (v := 0) dL_refuses_892 (by decide) ?_
                                                                                                              refine r_iload_n (pc := 893) dL_refuses_893 rfl rfl ?_
                                                                                                              refine r_iconst (pc := 894) (v := 2) dL_refuses_894 (by decide) ?_
                                                                                                              refine r_iremc (pc := 895) dL_refuses_895 (by decide) ?_
                                                                                                              refine r_jn1 h (fun x182 => AL gI2 Y cL_refuses RL 911 [some (.ref a1), some (.int p2), some (.int x2), some (.int x4), none, none, some (.int x14), none] [.int x182, .int 0, .int 18, .ref a1] s179) (fun x182 h => ?_) (fun hJ183 => ?_)
                                                                                                              · intro _ hI
                                                                                                                refine r_iconst (pc := 911) (v := 0) dL_refuses_911 (by decide) ?_
                                                                                                                obtain ⟨s185, x186, q187, eq187, kq187, h⟩ := gCN_some h
                                                                                                                refine r_callA (pc := 912) [.ref _, .int _, .int _, .int _, .int _] (taL_call _ hlt _ _ hF _ _ _ _ _ _ _ q187 h1) cd_L_call wL_190 nm_L_call rfl (by rw [hRm]; decide) rfl (Nat.le_of_ble_eq_true rfl) dL_refuses_912 hB eq187 kq187 hI (fun _ hI => ?_)
                                                                                                                refine r_ldc (pc := 915) (v := (-9999002)) dL_refuses_915 cL_18 ?_
                                                                                                                refine r_icmp_ne (pc := 917) (tgt := 1081) dL_refuses_917 (by decide) h (fun h => ?_) (fun h => ?_)
                                                                                                                · refine r_iconst (pc := 1081) (v := 0) dL_refuses_1081 (by decide) ?_
                                                                                                                  exact r_mask [true, false, true, false, false, false, true, false] rfl (hJ25 _ _ h _ hI)
                                                                                                                · refine r_aload_n (pc := 920) dL_refuses_920 rfl rfl ?_
                                                                                                                  refine r_bipush (pc := 921) (v := 19) dL_refuses_921 (by decide) ?_
                                                                                                                  refine r_iload_n (pc := 923) dL_refuses_923 rfl rfl ?_
                                                                                                                  refine r_iconst (pc := 924) (v := 0) dL_refuses_924 (by decide) ?_
                                                                                                                  refine r_iconst (pc := 925) (v := 0) dL_refuses_925 (by decide) ?_
                                                                                                                  obtain ⟨s188, x189, q190, eq190, kq190, h⟩ := gCN_some h
                                                                                                                  refine r_callA (pc := 926) [.ref _, .int _, .int _, .int _, .int _] (taL_call _ hlt _ _ hF _ _ _ _ _ _ _ q190 h1) cd_L_call wL_190 nm_L_call rfl (by rw [hRm]; decide) rfl (Nat.le_of_ble_eq_true rfl) dL_refuses_926 hB eq190 kq190 hI (fun _ hI => ?_)
                                                                                                                  refine r_ldc (pc := 929) (v := (-9999001)) dL_refuses_929 cL_15 ?_
                                                                                                                  refine r_icmp_ne (pc := 931) (tgt := 1081) dL_refuses_931 (by decide) h (fun h => ?_) (fun h => ?_)
                                                                                                                  · refine r_iconst (pc := 1081) (v := 0) dL_refuses_1081 (by decide) ?_
                                                                                                                    exact r_mask [true, false, true, false, false, false, true, false] rfl (hJ25 _ _ h _ hI)
                                                                                                                  · refine r_aload_n (pc := 934) dL_refuses_934 rfl rfl ?_
                                                                                                                    refine r_bipush (pc := 935) (v := 20) dL_refuses_935 (by decide) ?_
                                                                                                                    refine r_iload_n (pc := 937) dL_refuses_937 rfl rfl ?_
                                                                                                                    refine r_iconst (pc := 938) (v := 2) dL_refuses_938 (by decide) ?_
                                                                                                                    refine r_iremc (pc := 939) dL_refuses_939 (by decide) ?_
                                                                                                                    refine r_jn1 h (fun x191 => AL gI2 Y cL_refuses RL 954 [some (.ref a1), some (.int p2), some (.int x2), none, none, none, some (.int x14), none] [.int x191, .int 20, .ref a1] s188) (fun x191 h => ?_) (fun hJ192 => ?_)
                                                                                                                    · intro _ hI
                                                                                                                      refine r_iconst (pc := 954) (v := 0) dL_refuses_954 (by decide) ?_
                                                                                                                      refine r_iconst (pc := 955) (v := 0) dL_refuses_955 (by decide) ?_
                                                                                                                      obtain ⟨s194, x195, q196, eq196, kq196, h⟩ := gCN_some h
                                                                                                                      refine r_callA (pc := 956) [.ref _, .int _, .int _, .int _, .int _] (taL_call _ hlt _ _ hF _ _ _ _ _ _ _ q196 h1) cd_L_call wL_190 nm_L_call rfl (by rw [hRm]; decide) rfl (Nat.le_of_ble_eq_true rfl) dL_refuses_956 hB eq196 kq196 hI (fun _ hI => ?_)
                                                                                                                      refine r_ldc (pc := 959) (v := (-9999002)) dL_refuses_959 cL_18 ?_
                                                                                                                      refine r_icmp_ne (pc := 961) (tgt := 1081) dL_refuses_961 (by decide) h (fun h => ?_) (fun h => ?_)
                                                                                                                      · refine r_iconst (pc := 1081) (v := 0) dL_refuses_1081 (by decide) ?_
                                                                                                                        exact r_mask [true, false, true, false, false, false, true, false] rfl (hJ25 _ _ h _ hI)
                                                                                                                      · refine r_aload_n (pc := 964) dL_refuses_964 rfl rfl ?_
                                                                                                                        refine r_bipush (pc := 965) (v := 21) dL_refuses_965 (by decide) ?_
                                                                                                                        refine r_iload_n (pc := 967) dL_refuses_967 rfl rfl ?_
                                                                                                                        refine r_iconst (pc := 968) (v := 2) dL_refuses_968 (by decide) ?_
                                                                                                                        refine r_iremc (pc := 969) dL_refuses_969 (by decide) ?_
                                                                                                                        refine r_jn1 h (fun x197 => AL gI2 Y cL_refuses RL 984 [some (.ref a1), some (.int p2), some (.int x2), none, none, none, some (.int x14), none] [.int x197, .int 21, .ref a1] s194) (fun x197 h => ?_) (fun hJ198 => ?_)
                                                                                                                        · intro _ hI
                                                                                                                          refine r_iconst (pc := 984) (v := 0) dL_refuses_984 (by decide) ?_
                                                                                                                          refine r_iconst (pc := 985) (v := 0) dL_refuses_985 (by decide) ?_
                                                                                                                          obtain ⟨s200, x201, q202, eq202, kq202, h⟩ := gCN_some h
                                                                                                                          refine r_callA (pc := 986) [.ref _, .int _, .int _, .int _, .int _] (taL_call _ hlt _ _ hF _ _ _ _ _ _ _ q202 h1) cd_L_call wL_190 nm_L_call rfl (by rw [hRm]; decide) rfl (Nat.le_of_ble_eq_true rfl) dL_refuses_986 hB eq202 kq202 hI (fun _ hI => ?_)
                                                                                                                          refine r_ldc (pc := 989) (v := (-9999002)) dL_refuses_989 cL_18 ?_
                                                                                                                          refine r_icmp_ne (pc := 991) (tgt := 1081) dL_refuses_991 (by decide) h (fun h => ?_) (fun h => ?_)
                                                                                                                          · refine r_iconst (pc := 1081) (v := 0) dL_refuses_1081 (by decide) ?_
                                                                                                                            exact r_mask [true, false, true, false, false, false, true, false] rfl (hJ25 _ _ h _ hI)
                                                                                                                          · refine r_aload_n (pc := 994) dL_refuses_994 rfl rfl ?_
                                                                                                                            refine r_bipush (pc := 995) (v := 22) dL_refuses_995 (by decide) ?_
                                                                                                                            refine r_iconst (pc := 997) (v := 2) dL_refuses_997 (by decide) ?_
                                                                                                                            refine r_iload_n (pc := 998) dL_refuses_998 rfl rfl ?_
                                                                                                                            refine r_bipush (pc := 999) (v := 50) dL_refuses_999 (by decide) ?_
                                                                                                                            refine r_iremc (pc := 1001) dL_refuses_1001 (by decide) ?_
                                                                                                                            refine r_iadd (pc := 1002) dL_refuses_1002 ?_
                                                                                                                            refine r_iconst (pc := 1003) (v := 0) dL_refuses_1003 (by decide) ?_
                                                                                                                            refine r_iconst (pc := 1004) (v := 0) dL_refuses_1004 (by decide) ?_
                                                                                                                            obtain ⟨s203, x204, q205, eq205, kq205, h⟩ := gCN_some h
                                                                                                                            refine r_callA (pc := 1005) [.ref _, .int _, .int _, .int _, .int _] (taL_call _ hlt _ _ hF _ _ _ _ _ _ _ q205 h1) cd_L_call wL_190 nm_L_call rfl (by rw [hRm]; decide) rfl (Nat.le_of_ble_eq_true rfl) dL_refuses_1005 hB eq205 kq205 hI (fun _ hI => ?_)
                                                                                                                            refine r_ldc (pc := 1008) (v := (-9999001)) dL_refuses_1008 cL_15 ?_
                                                                                                                            refine r_icmp_ne (pc := 1010) (tgt := 1081) dL_refuses_1010 (by decide) h (fun h => ?_) (fun h => ?_)
                                                                                                                            · refine r_iconst (pc := 1081) (v := 0) dL_refuses_1081 (by decide) ?_
                                                                                                                              exact r_mask [true, false, true, false, false, false, true, false] rfl (hJ25 _ _ h _ hI)
                                                                                                                            · refine r_aload_n (pc := 1013) dL_refuses_1013 rfl rfl ?_
                                                                                                                              refine r_bipush (pc := 1014) (v := 23) dL_refuses_1014 (by decide) ?_
                                                                                                                              refine r_iconst (pc := 1016) (v := (-1)) dL_refuses_1016 (by decide) ?_
                                                                                                                              refine r_iload_n (pc := 1017) dL_refuses_1017 rfl rfl ?_
                                                                                                                              refine r_bipush (pc := 1018) (v := 9) dL_refuses_1018 (by decide) ?_
                                                                                                                              refine r_iremc (pc := 1020) dL_refuses_1020 (by decide) ?_
                                                                                                                              refine r_isub (pc := 1021) dL_refuses_1021 ?_
                                                                                                                              refine r_iconst (pc := 1022) (v := 0) dL_refuses_1022 (by decide) ?_
                                                                                                                              refine r_iconst (pc := 1023) (v := 0) dL_refuses_1023 (by decide) ?_
                                                                                                                              obtain ⟨s206, x207, q208, eq208, kq208, h⟩ := gCN_some h
                                                                                                                              refine r_callA (pc := 1024) [.ref _, .int _, .int _, .int _, .int _] (taL_call _ hlt _ _ hF _ _ _ _ _ _ _ q208 h1) cd_L_call wL_190 nm_L_call rfl (by rw [hRm]; decide) rfl (Nat.le_of_ble_eq_true rfl) dL_refuses_1024 hB eq208 kq208 hI (fun _ hI => ?_)
                                                                                                                              refine r_ldc (pc := 1027) (v := (-9999001)) dL_refuses_1027 cL_15 ?_
                                                                                                                              refine r_icmp_ne (pc := 1029) (tgt := 1081) dL_refuses_1029 (by decide) h (fun h => ?_) (fun h => ?_)
                                                                                                                              · refine r_iconst (pc := 1081) (v := 0) dL_refuses_1081 (by decide) ?_
                                                                                                                                exact r_mask [true, false, true, false, false, false, true, false] rfl (hJ25 _ _ h _ hI)
                                                                                                                              · refine r_aload_n (pc := 1032) dL_refuses_1032 rfl rfl ?_
                                                                                                                                refine r_iconst (pc := 1033) (v := 0) dL_refuses_1033 (by decide) ?_
                                                                                                                                refine r_lconst (pc := 1034) (v := 0) dL_refuses_1034 (by decide) ?_
                                                                                                                                obtain ⟨s209, x210, q211, eq211, kq211, h⟩ := gCN_some h
                                                                                                                                refine r_callAW (pc := 1035) [.ref _, .int _, .long _] (taL_doScript _ hlt _ _ hF _ _ _ _ _ q211 h1) cd_L_doScript wL_202 nm_L_doScript rfl (by rw [hRm]; decide) rfl (Nat.le_of_ble_eq_true rfl) dL_refuses_1035 hB eq211 kq211 hI (fun _ hI => ?_)
                                                                                                                                refine r_ldc (pc := 1038) (v := (-9999002)) dL_refuses_1038 cL_18 ?_
                                                                                                                                refine r_icmp_ne (pc := 1040) (tgt := 1081) dL_refuses_1040 (by decide) h (fun h => ?_) (fun h => ?_)
                                                                                                                                · refine r_iconst (pc := 1081) (v := 0) dL_refuses_1081 (by decide) ?_
                                                                                                                                  exact r_mask [true, false, true, false, false, false, true, false] rfl (hJ25 _ _ h _ hI)
                                                                                                                                · refine r_aload_n (pc := 1043) dL_refuses_1043 rfl rfl ?_
                                                                                                                                  refine r_iconst (pc := 1044) (v := 1) dL_refuses_1044 (by decide) ?_
                                                                                                                                  refine r_ldc2 (pc := 1045) (v := 1000000) dL_refuses_1045 cL_206 ?_
                                                                                                                                  refine r_iload_n (pc := 1048) dL_refuses_1048 rfl rfl ?_
                                                                                                                                  refine r_i2l (pc := 1049) dL_refuses_1049 ?_
                                                                                                                                  refine r_ladd (pc := 1050) dL_refuses_1050 ?_
                                                                                                                                  obtain ⟨s212, x213, q214, eq214, kq214, h⟩ := gCN_some h
                                                                                                                                  refine r_callAW (pc := 1051) [.ref _, .int _, .long _] (taL_doScript _ hlt _ _ hF _ _ _ _ _ q214 h1) cd_L_doScript wL_202 nm_L_doScript rfl (by rw [hRm]; decide) rfl (Nat.le_of_ble_eq_true rfl) dL_refuses_1051 hB eq214 kq214 hI (fun _ hI => ?_)
                                                                                                                                  refine r_ldc (pc := 1054) (v := (-9999002)) dL_refuses_1054 cL_18 ?_
                                                                                                                                  refine r_icmp_ne (pc := 1056) (tgt := 1081) dL_refuses_1056 (by decide) h (fun h => ?_) (fun h => ?_)
                                                                                                                                  · refine r_iconst (pc := 1081) (v := 0) dL_refuses_1081 (by decide) ?_
                                                                                                                                    exact r_mask [true, false, true, false, false, false, true, false] rfl (hJ25 _ _ h _ hI)
                                                                                                                                  · refine r_aload_n (pc := 1059) dL_refuses_1059 rfl rfl ?_
                                                                                                                                    refine r_iload_n (pc := 1060) dL_refuses_1060 rfl rfl ?_
                                                                                                                                    refine r_i2l (pc := 1061) dL_refuses_1061 ?_
                                                                                                                                    refine r_bipush (pc := 1062) (v := 61) dL_refuses_1062 (by decide) ?_
                                                                                                                                    refine r_iload_n (pc := 1064) dL_refuses_1064 rfl rfl ?_
                                                                                                                                    refine r_bipush (pc := 1065) (v := 9) dL_refuses_1065 (by decide) ?_
                                                                                                                                    refine r_iremc (pc := 1067) dL_refuses_1067 (by decide) ?_
                                                                                                                                    refine r_iadd (pc := 1068) dL_refuses_1068 ?_
                                                                                                                                    obtain ⟨s215, x216, q217, eq217, kq217, h⟩ := gCN_some h
                                                                                                                                    refine r_callAW (pc := 1069) [.ref _, .long _, .int _] (taL_doSimulate _ hlt _ _ hF _ _ _ _ _ q217 h1) cd_L_doSimulate wL_208 nm_L_doSimulate rfl (by rw [hRm]; decide) rfl (Nat.le_of_ble_eq_true rfl) dL_refuses_1069 hB eq217 kq217 hI (fun _ hI => ?_)
                                                                                                                                    refine r_ldc (pc := 1072) (v := (-9999002)) dL_refuses_1072 cL_18 ?_
                                                                                                                                    refine r_icmp_ne (pc := 1074) (tgt := 1081) dL_refuses_1074 (by decide) h (fun h => ?_) (fun h => ?_)
                                                                                                                                    · refine r_iconst (pc := 1081) (v := 0) dL_refuses_1081 (by decide) ?_
                                                                                                                                      exact r_mask [true, false, true, false, false, false, true, false] rfl (hJ25 _ _ h _ hI)
                                                                                                                                    · refine r_iconst (pc := 1077) (v := 1) dL_refuses_1077 (by decide) ?_
                                                                                                                                      refine r_goto (pc := 1078) (tgt := 1082) dL_refuses_1078 (by decide) ?_
                                                                                                                                      exact r_mask [true, false, true, false, false, false, true, false] rfl (hJ25 _ _ h _ hI)
                                                                                                                        · refine r_ifC_ne (pc := 970) (tgt := 977) dL_refuses_970 (by decide) (fun g199 => ?_) (fun g199 => ?_)
                                                                                                                          · refine r_bipush (pc := 977) (v := 31) dL_refuses_977 (by decide) ?_
                                                                                                                            refine r_iload_n (pc := 979) dL_refuses_979 rfl rfl ?_
                                                                                                                            refine r_bipush (pc := 980) (v := 9) dL_refuses_980 (by decide) ?_
                                                                                                                            refine r_iremc (pc := 982) dL_refuses_982 (by decide) ?_
                                                                                                                            refine r_iadd (pc := 983) dL_refuses_983 ?_
                                                                                                                            exact r_mask [true, true, true, false, false, false, true, false] rfl (hJ198 _ (by rw [if_neg g199]) _ hI)
                                                                                                                          · refine r_iconst (pc := 973) (v := 0) dL_refuses_973 (by decide) ?_
                                                                                                                            refine r_goto (pc := 974) (tgt := 984) dL_refuses_974 (by decide) ?_
                                                                                                                            exact r_mask [true, true, true, false, false, false, true, false] rfl (hJ198 _ (by rw [if_pos g199]) _ hI)
                                                                                                                    · refine r_ifC_ne (pc := 940) (tgt := 947) dL_refuses_940 (by decide) (fun g193 => ?_) (fun g193 => ?_)
                                                                                                                      · refine r_bipush (pc := 947) (v := 61) dL_refuses_947 (by decide) ?_
                                                                                                                        refine r_iload_n (pc := 949) dL_refuses_949 rfl rfl ?_
                                                                                                                        refine r_bipush (pc := 950) (v := 9) dL_refuses_950 (by decide) ?_
                                                                                                                        refine r_iremc (pc := 952) dL_refuses_952 (by decide) ?_
                                                                                                                        refine r_iadd (pc := 953) dL_refuses_953 ?_
                                                                                                                        exact r_mask [true, true, true, false, false, false, true, false] rfl (hJ192 _ (by rw [if_neg g193]) _ hI)
                                                                                                                      · refine r_iconst (pc := 943) (v := 0) dL_refuses_943 (by decide) ?_
                                                                                                                        refine r_goto (pc := 944) (tgt := 954) dL_refuses_944 (by decide) ?_
                                                                                                                        exact r_mask [true, true, true, false, false, false, true, false] rfl (hJ192 _ (by rw [if_pos g193]) _ hI)
                                                                                                              · refine r_ifC_ne (pc := 896) (tgt := 903) dL_refuses_896 (by decide) (fun g184 => ?_) (fun g184 => ?_)
                                                                                                                · refine r_sipush (pc := 903) (v := 201) dL_refuses_903 (by decide) ?_
                                                                                                                  refine r_iload_n (pc := 906) dL_refuses_906 rfl rfl ?_
                                                                                                                  refine r_bipush (pc := 907) (v := 9) dL_refuses_907 (by decide) ?_
                                                                                                                  refine r_iremc (pc := 909) dL_refuses_909 (by decide) ?_
                                                                                                                  refine r_iadd (pc := 910) dL_refuses_910 ?_
                                                                                                                  exact r_mask [true, true, true, true, false, false, true, false] rfl (hJ183 _ (by rw [if_neg g184]) _ hI)
                                                                                                                · refine r_iconst (pc := 899) (v := (-1)) dL_refuses_899 (by decide) ?_
                                                                                                                  refine r_goto (pc := 900) (tgt := 911) dL_refuses_900 (by decide) ?_
                                                                                                                  exact r_mask [true, true, true, true, false, false, true, false] rfl (hJ183 _ (by rw [if_pos g184]) _ hI)
                                                                                                      · refine r_ifC_ne (pc := 835) (tgt := 842) dL_refuses_835 (by decide) (fun g172 => ?_) (fun g172 => ?_)
                                                                                                        · refine r_bipush (pc := 842) (v := 61) dL_refuses_842 (by decide) ?_
                                                                                                          refine r_iload_n (pc := 844) dL_refuses_844 rfl rfl ?_
                                                                                                          refine r_bipush (pc := 845) (v := 9) dL_refuses_845 (by decide) ?_
                                                                                                          refine r_iremc (pc := 847) dL_refuses_847 (by decide) ?_
                                                                                                          refine r_iadd (pc := 848) dL_refuses_848 ?_
                                                                                                          exact r_mask [true, true, true, true, false, false, true, false] rfl (hJ171 _ (by rw [if_neg g172]) _ hI)
                                                                                                        · refine r_iconst (pc := 838) (v := 0) dL_refuses_838 (by decide) ?_
                                                                                                          refine r_goto (pc := 839) (tgt := 849) dL_refuses_839 (by decide) ?_
                                                                                                          exact r_mask [true, true, true, true, false, false, true, false] rfl (hJ171 _ (by rw [if_pos g172]) _ hI)
                                                                                                · refine r_ifC_ne (pc := 787) (tgt := 794) dL_refuses_787 (by decide) (fun g163 => ?_) (fun g163 => ?_)
                                                                                                  · refine r_bipush (pc := 794) (v := 21) dL_refuses_794 (by decide) ?_
                                                                                                    refine r_iload_n (pc := 796) dL_refuses_796 rfl rfl ?_
                                                                                                    refine r_bipush (pc := 797) (v := 9) dL_refuses_797 (by decide) ?_
                                                                                                    refine r_iremc (pc := 799) dL_refuses_799 (by decide) ?_
                                                                                                    refine r_iadd (pc := 800) dL_refuses_800 ?_
                                                                                                    exact r_mask [true, true, true, true, false, false, true, false] rfl (hJ162 _ (by rw [if_neg g163]) _ hI)
                                                                                                  · refine r_iconst (pc := 790) (v := 0) dL_refuses_790 (by decide) ?_
                                                                                                    refine r_goto (pc := 791) (tgt := 801) dL_refuses_791 (by decide) ?_
                                                                                                    exact r_mask [true, true, true, true, false, false, true, false] rfl (hJ162 _ (by rw [if_pos g163]) _ hI)
                                                                                        · refine r_ifC_ne (pc := 713) (tgt := 720) dL_refuses_713 (by decide) (fun g151 => ?_) (fun g151 => ?_)
                                                                                          · refine r_bipush (pc := 720) (v := 100) dL_refuses_720 (by decide) ?_
                                                                                            refine r_iload_n (pc := 722) dL_refuses_722 rfl rfl ?_
                                                                                            refine r_bipush (pc := 723) (v := 9) dL_refuses_723 (by decide) ?_
                                                                                            refine r_iremc (pc := 725) dL_refuses_725 (by decide) ?_
                                                                                            refine r_iadd (pc := 726) dL_refuses_726 ?_
                                                                                            exact r_mask [true, true, true, true, false, false, true, false] rfl (hJ150 _ (by rw [if_neg g151]) _ hI)
                                                                                          · refine r_iconst (pc := 716) (v := (-1)) dL_refuses_716 (by decide) ?_
                                                                                            refine r_goto (pc := 717) (tgt := 727) dL_refuses_717 (by decide) ?_
                                                                                            exact r_mask [true, true, true, true, false, false, true, false] rfl (hJ150 _ (by rw [if_pos g151]) _ hI)
                                                                            · refine r_ifC_ne (pc := 627) (tgt := 634) dL_refuses_627 (by decide) (fun g133 => ?_) (fun g133 => ?_)
                                                                              · refine r_iload (pc := 634) dL_refuses_634 rfl ?_
                                                                                refine r_iload_n (pc := 636) dL_refuses_636 rfl rfl ?_
                                                                                refine r_bipush (pc := 637) (v := 9) dL_refuses_637 (by decide) ?_
                                                                                refine r_iremc (pc := 639) dL_refuses_639 (by decide) ?_
                                                                                refine r_iadd (pc := 640) dL_refuses_640 ?_
                                                                                exact r_mask [true, true, true, true, true, true, true, false] rfl (hJ132 _ (by rw [if_neg g133]) _ hI)
                                                                              · refine r_iconst (pc := 630) (v := (-1)) dL_refuses_630 (by decide) ?_
                                                                                refine r_goto (pc := 631) (tgt := 641) dL_refuses_631 (by decide) ?_
                                                                                exact r_mask [true, true, true, true, true, true, true, false] rfl (hJ132 _ (by rw [if_pos g133]) _ hI)
                                                                      · refine r_ifC_ne (pc := 583) (tgt := 590) dL_refuses_583 (by decide) (fun g124 => ?_) (fun g124 => ?_)
                                                                        · refine r_sipush (pc := 590) (v := 1000) dL_refuses_590 (by decide) ?_
                                                                          refine r_iload_n (pc := 593) dL_refuses_593 rfl rfl ?_
                                                                          refine r_bipush (pc := 594) (v := 9) dL_refuses_594 (by decide) ?_
                                                                          refine r_iremc (pc := 596) dL_refuses_596 (by decide) ?_
                                                                          refine r_iadd (pc := 597) dL_refuses_597 ?_
                                                                          exact r_mask [true, true, true, true, true, true, true, false] rfl (hJ123 _ (by rw [if_neg g124]) _ hI)
                                                                        · refine r_iconst (pc := 586) (v := 4) dL_refuses_586 (by decide) ?_
                                                                          refine r_goto (pc := 587) (tgt := 598) dL_refuses_587 (by decide) ?_
                                                                          exact r_mask [true, true, true, true, true, true, true, false] rfl (hJ123 _ (by rw [if_pos g124]) _ hI)
                                                                  · refine r_ifC_ne (pc := 549) (tgt := 556) dL_refuses_549 (by decide) (fun g118 => ?_) (fun g118 => ?_)
                                                                    · refine r_sipush (pc := 556) (v := 1000) dL_refuses_556 (by decide) ?_
                                                                      refine r_iload_n (pc := 559) dL_refuses_559 rfl rfl ?_
                                                                      refine r_bipush (pc := 560) (v := 9) dL_refuses_560 (by decide) ?_
                                                                      refine r_iremc (pc := 562) dL_refuses_562 (by decide) ?_
                                                                      refine r_iadd (pc := 563) dL_refuses_563 ?_
                                                                      exact r_mask [true, true, true, true, true, true, true, false] rfl (hJ117 _ (by rw [if_neg g118]) _ hI)
                                                                    · refine r_iconst (pc := 552) (v := (-1)) dL_refuses_552 (by decide) ?_
                                                                      refine r_goto (pc := 553) (tgt := 564) dL_refuses_553 (by decide) ?_
                                                                      exact r_mask [true, true, true, true, true, true, true, false] rfl (hJ117 _ (by rw [if_pos g118]) _ hI)
                                                            · refine r_ifC_ne (pc := 506) (tgt := 513) dL_refuses_506 (by decide) (fun g109 => ?_) (fun g109 => ?_)
                                                              · refine r_bipush (pc := 513) (v := 10) dL_refuses_513 (by decide) ?_
                                                                refine r_iload_n (pc := 515) dL_refuses_515 rfl rfl ?_
                                                                refine r_bipush (pc := 516) (v := 9) dL_refuses_516 (by decide) ?_
                                                                refine r_iremc (pc := 518) dL_refuses_518 (by decide) ?_
                                                                refine r_iadd (pc := 519) dL_refuses_519 ?_
                                                                exact r_mask [true, true, true, true, true, true, true, false] rfl (hJ108 _ (by rw [if_neg g109]) _ hI)
                                                              · refine r_iconst (pc := 509) (v := (-1)) dL_refuses_509 (by decide) ?_
                                                                refine r_goto (pc := 510) (tgt := 520) dL_refuses_510 (by decide) ?_
                                                                exact r_mask [true, true, true, true, true, true, true, false] rfl (hJ108 _ (by rw [if_pos g109]) _ hI)
                                                    · refine r_ifC_ne (pc := 441) (tgt := 453) dL_refuses_441 (by decide) (fun g97 => ?_) (fun g97 => ?_)
                                                      · refine r_ldc (pc := 453) (v := 10000000) dL_refuses_453 cL_197 ?_
                                                        refine r_iload_n (pc := 455) dL_refuses_455 rfl rfl ?_
                                                        refine r_bipush (pc := 456) (v := 9) dL_refuses_456 (by decide) ?_
                                                        refine r_iremc (pc := 458) dL_refuses_458 (by decide) ?_
                                                        refine r_iadd (pc := 459) dL_refuses_459 ?_
                                                        exact r_mask [true, true, true, true, true, true, true, false] rfl (hJ96 _ (by rw [if_neg g97]) _ hI)
                                                      · refine r_iconst (pc := 444) (v := (-1)) dL_refuses_444 (by decide) ?_
                                                        refine r_iload_n (pc := 445) dL_refuses_445 rfl rfl ?_
                                                        refine r_bipush (pc := 446) (v := 9) dL_refuses_446 (by decide) ?_
                                                        refine r_iremc (pc := 448) dL_refuses_448 (by decide) ?_
                                                        refine r_isub (pc := 449) dL_refuses_449 ?_
                                                        refine r_goto (pc := 450) (tgt := 460) dL_refuses_450 (by decide) ?_
                                                        exact r_mask [true, true, true, true, true, true, true, false] rfl (hJ96 _ (by rw [if_pos g97]) _ hI)
                                            · refine r_ifC_ne (pc := 377) (tgt := 384) dL_refuses_377 (by decide) (fun g85 => ?_) (fun g85 => ?_)
                                              · refine r_sipush (pc := 384) (v := 501) dL_refuses_384 (by decide) ?_
                                                refine r_iload_n (pc := 387) dL_refuses_387 rfl rfl ?_
                                                refine r_bipush (pc := 388) (v := 9) dL_refuses_388 (by decide) ?_
                                                refine r_iremc (pc := 390) dL_refuses_390 (by decide) ?_
                                                refine r_iadd (pc := 391) dL_refuses_391 ?_
                                                exact r_mask [true, true, true, true, true, true, true, false] rfl (hJ84 _ (by rw [if_neg g85]) _ hI)
                                              · refine r_iconst (pc := 380) (v := (-1)) dL_refuses_380 (by decide) ?_
                                                refine r_goto (pc := 381) (tgt := 392) dL_refuses_381 (by decide) ?_
                                                exact r_mask [true, true, true, true, true, true, true, false] rfl (hJ84 _ (by rw [if_pos g85]) _ hI)
                                        · refine r_ifC_ne (pc := 346) (tgt := 353) dL_refuses_346 (by decide) (fun g79 => ?_) (fun g79 => ?_)
                                          · refine r_sipush (pc := 353) (v := 1000) dL_refuses_353 (by decide) ?_
                                            refine r_iload_n (pc := 356) dL_refuses_356 rfl rfl ?_
                                            refine r_bipush (pc := 357) (v := 9) dL_refuses_357 (by decide) ?_
                                            refine r_iremc (pc := 359) dL_refuses_359 (by decide) ?_
                                            refine r_iadd (pc := 360) dL_refuses_360 ?_
                                            exact r_mask [true, true, true, true, true, true, true, false] rfl (hJ78 _ (by rw [if_neg g79]) _ hI)
                                          · refine r_iconst (pc := 349) (v := (-1)) dL_refuses_349 (by decide) ?_
                                            refine r_goto (pc := 350) (tgt := 361) dL_refuses_350 (by decide) ?_
                                            exact r_mask [true, true, true, true, true, true, true, false] rfl (hJ78 _ (by rw [if_pos g79]) _ hI)
                        · refine r_ifC_ne (pc := 223) (tgt := 230) dL_refuses_223 (by decide) (fun g55 => ?_) (fun g55 => ?_)
                          · refine r_iconst (pc := 230) (v := 3) dL_refuses_230 (by decide) ?_
                            refine r_iload_n (pc := 231) dL_refuses_231 rfl rfl ?_
                            refine r_bipush (pc := 232) (v := 9) dL_refuses_232 (by decide) ?_
                            refine r_iremc (pc := 234) dL_refuses_234 (by decide) ?_
                            refine r_iadd (pc := 235) dL_refuses_235 ?_
                            exact r_mask [true, true, true, true, true, true, true, false] rfl (hJ54 _ (by rw [if_neg g55]) _ hI)
                          · refine r_iconst (pc := 226) (v := (-1)) dL_refuses_226 (by decide) ?_
                            refine r_goto (pc := 227) (tgt := 236) dL_refuses_227 (by decide) ?_
                            exact r_mask [true, true, true, true, true, true, true, false] rfl (hJ54 _ (by rw [if_pos g55]) _ hI)
        · refine r_ifC_ne (pc := 94) (tgt := 106) dL_refuses_94 (by decide) (fun g18 => ?_) (fun g18 => ?_)
          · refine r_sipush (pc := 106) (v := 256) dL_refuses_106 (by decide) ?_
            refine r_iload_n (pc := 109) dL_refuses_109 rfl rfl ?_
            refine r_bipush (pc := 110) (v := 9) dL_refuses_110 (by decide) ?_
            refine r_iremc (pc := 112) dL_refuses_112 (by decide) ?_
            refine r_iadd (pc := 113) dL_refuses_113 ?_
            exact r_mask [true, true, true, true, true, true, true, false] rfl (hJ17 _ (by rw [if_neg g18]) _ hI)
          · refine r_iconst (pc := 97) (v := (-1)) dL_refuses_97 (by decide) ?_
            refine r_iload_n (pc := 98) dL_refuses_98 rfl rfl ?_
            refine r_bipush (pc := 99) (v := 9) dL_refuses_99 (by decide) ?_
            refine r_iremc (pc := 101) dL_refuses_101 (by decide) ?_
            refine r_isub (pc := 102) dL_refuses_102 ?_
            refine r_goto (pc := 103) (tgt := 114) dL_refuses_103 (by decide) ?_
            exact r_mask [true, true, true, true, true, true, true, false] rfl (hJ17 _ (by rw [if_pos g18]) _ hI)
      · refine r_ifC_ne (pc := 57) (tgt := 69) dL_refuses_57 (by decide) (fun g12 => ?_) (fun g12 => ?_)
        · refine r_bipush (pc := 69) (v := 7) dL_refuses_69 (by decide) ?_
          refine r_iload_n (pc := 71) dL_refuses_71 rfl rfl ?_
          refine r_bipush (pc := 72) (v := 99) dL_refuses_72 (by decide) ?_
          refine r_iremc (pc := 74) dL_refuses_74 (by decide) ?_
          refine r_iadd (pc := 75) dL_refuses_75 ?_
          exact r_mask [true, true, true, true, true, false, false, false] rfl (hJ11 _ (by rw [if_neg g12]) _ hI)
        · refine r_iconst (pc := 60) (v := (-1)) dL_refuses_60 (by decide) ?_
          refine r_iload_n (pc := 61) dL_refuses_61 rfl rfl ?_
          refine r_bipush (pc := 62) (v := 99) dL_refuses_62 (by decide) ?_
          refine r_iremc (pc := 64) dL_refuses_64 (by decide) ?_
          refine r_isub (pc := 65) dL_refuses_65 ?_
          refine r_goto (pc := 66) (tgt := 76) dL_refuses_66 (by decide) ?_
          exact r_mask [true, true, true, true, true, false, false, false] rfl (hJ11 _ (by rw [if_pos g12]) _ hI)
    · refine r_ifC_ne (pc := 34) (tgt := 46) dL_refuses_34 (by decide) (fun g9 => ?_) (fun g9 => ?_)
      · refine r_iconst (pc := 46) (v := 4) dL_refuses_46 (by decide) ?_
        refine r_iload_n (pc := 47) dL_refuses_47 rfl rfl ?_
        refine r_bipush (pc := 48) (v := 99) dL_refuses_48 (by decide) ?_
        refine r_iremc (pc := 50) dL_refuses_50 (by decide) ?_
        refine r_iadd (pc := 51) dL_refuses_51 ?_
        exact r_mask [true, true, true, true, false, false, false, false] rfl (hJ8 _ (by rw [if_neg g9]) _ hI)
      · refine r_iconst (pc := 37) (v := (-1)) dL_refuses_37 (by decide) ?_
        refine r_iload_n (pc := 38) dL_refuses_38 rfl rfl ?_
        refine r_bipush (pc := 39) (v := 99) dL_refuses_39 (by decide) ?_
        refine r_iremc (pc := 41) dL_refuses_41 (by decide) ?_
        refine r_isub (pc := 42) dL_refuses_42 ?_
        refine r_goto (pc := 43) (tgt := 52) dL_refuses_43 (by decide) ?_
        exact r_mask [true, true, true, true, false, false, false, false] rfl (hJ8 _ (by rw [if_pos g9]) _ hI)
  · refine r_ifC_ne (pc := 12) (tgt := 24) dL_refuses_12 (by decide) (fun g6 => ?_) (fun g6 => ?_)
    · refine r_iload_n (pc := 24) dL_refuses_24 rfl rfl ?_
      refine r_iload_n (pc := 25) dL_refuses_25 rfl rfl ?_
      refine r_bipush (pc := 26) (v := 99) dL_refuses_26 (by decide) ?_
      refine r_iremc (pc := 28) dL_refuses_28 (by decide) ?_
      refine r_iadd (pc := 29) dL_refuses_29 ?_
      exact r_mask [true, true, true, false, false, false, false, false] rfl (hJ5 _ (by rw [if_neg g6]) _ hI)
    · refine r_iconst (pc := 15) (v := (-1)) dL_refuses_15 (by decide) ?_
      refine r_iload_n (pc := 16) dL_refuses_16 rfl rfl ?_
      refine r_bipush (pc := 17) (v := 99) dL_refuses_17 (by decide) ?_
      refine r_iremc (pc := 19) dL_refuses_19 (by decide) ?_
      refine r_isub (pc := 20) dL_refuses_20 ?_
      refine r_goto (pc := 21) (tgt := 30) dL_refuses_21 (by decide) ?_
      exact r_mask [true, true, true, false, false, false, false, false] rfl (hJ5 _ (by rw [if_pos g6]) _ hI)
set_option maxHeartbeats 8000000 in
set_option maxRecDepth 100000 in
theorem taL_holds (l : Launch) (hlt : l.stackTraces = false) (G : gX) (u : gU) (hF : gFull u) (a1 : Nat) (p2 : Int32) (t : gS) (o : gS × Int32) (h : aL_holds a1 p2 t = some o) (h1 : gIn u a1 4 0) : gMetA gI2 l G u yL_holds (.code yL_holds cL_holds 20 (some .boolean)) 11 215 600 [.ref a1, .int p2] t o.1 (some (.int o.2)) := by
  refine gMetA_of (own := RL) (k := 18) (by decide) rfl (Nat.le_of_ble_eq_true rfl) [some (.ref a1), some (.int p2), none, none, none, none, none, none, none, none, none, none, none, none, none, none, none, none, none, none] rfl (fun Y hG hu hnL hLn hRm hB he => ?_)
  subst hG hu hLn
  unfold aL_holds aL_holdsB at h
  generalize ((t, 0) : gS × Nat) = s at h ⊢
  intro _ hI
  refine r_aload_n (pc := 0) dL_holds_0 rfl rfl ?_
  refine r_iconst (pc := 1) (v := 2) dL_holds_1 (by decide) ?_
  refine r_iconst (pc := 2) (v := 0) dL_holds_2 (by decide) ?_
  refine r_iconst (pc := 3) (v := 0) dL_holds_3 (by decide) ?_
  refine r_iconst (pc := 4) (v := 0) dL_holds_4 (by decide) ?_
  obtain ⟨s1, x2, q3, eq3, kq3, h⟩ := gCN_some h
  refine r_callA (pc := 5) [.ref _, .int _, .int _, .int _, .int _] (taL_call _ hlt _ _ hF _ _ _ _ _ _ _ q3 h1) cd_L_call wL_190 nm_L_call rfl (by rw [hRm]; decide) rfl (Nat.le_of_ble_eq_true rfl) dL_holds_5 hB eq3 kq3 hI (fun _ hI => ?_)
  refine r_istore_n (pc := 8) dL_holds_8 rfl (by rw [gYn_nL, hnL]; decide) rfl ?_
  refine r_aload_n (pc := 9) dL_holds_9 rfl rfl ?_
  refine r_iconst (pc := 10) (v := 2) dL_holds_10 (by decide) ?_
  refine r_iconst (pc := 11) (v := 1) dL_holds_11 (by decide) ?_
  refine r_iconst (pc := 12) (v := 0) dL_holds_12 (by decide) ?_
  refine r_iconst (pc := 13) (v := 0) dL_holds_13 (by decide) ?_
  obtain ⟨s4, x5, q6, eq6, kq6, h⟩ := gCN_some h
  refine r_callA (pc := 14) [.ref _, .int _, .int _, .int _, .int _] (taL_call _ hlt _ _ hF _ _ _ _ _ _ _ q6 h1) cd_L_call wL_190 nm_L_call rfl (by rw [hRm]; decide) rfl (Nat.le_of_ble_eq_true rfl) dL_holds_14 hB eq6 kq6 hI (fun _ hI => ?_)
  refine r_istore_n (pc := 17) dL_holds_17 rfl (by rw [gYn_nL, hnL]; decide) rfl ?_
  refine r_iconst (pc := 18) (v := 0) dL_holds_18 (by decide) ?_
  refine r_istore (pc := 19) dL_holds_19 (by rw [gYn_nL, hnL]; decide) rfl ?_
  refine r_iconst (pc := 21) (v := 0) dL_holds_21 (by decide) ?_
  refine r_istore (pc := 22) dL_holds_22 (by rw [gYn_nL, hnL]; decide) rfl ?_
  refine r_iconst (pc := 24) (v := 0) dL_holds_24 (by decide) ?_
  refine r_istore (pc := 25) dL_holds_25 (by rw [gYn_nL, hnL]; decide) rfl ?_
  refine r_iconst (pc := 27) (v := 0) dL_holds_27 (by decide) ?_
  refine r_istore (pc := 28) dL_holds_28 (by rw [gYn_nL, hnL]; decide) rfl ?_
  refine r_iconst (pc := 30) (v := 0) dL_holds_30 (by decide) ?_
  refine r_istore (pc := 31) dL_holds_31 (by rw [gYn_nL, hnL]; decide) rfl ?_
  refine r_iconst (pc := 33) (v := 0) dL_holds_33 (by decide) ?_
  refine r_istore (pc := 34) dL_holds_34 (by rw [gYn_nL, hnL]; decide) rfl ?_
  refine r_iconst (pc := 36) (v := 0) dL_holds_36 (by decide) ?_
  refine r_istore (pc := 37) dL_holds_37 (by rw [gYn_nL, hnL]; decide) rfl ?_
  refine r_iload_n (pc := 39) dL_holds_39 rfl rfl ?_
  refine r_bipush (pc := 40) (v := 10) dL_holds_40 (by decide) ?_
  refine r_jn1 h (fun x7 => AL gI2 Y cL_holds RL 50 [some (.ref a1), some (.int p2), some (.int x2), some (.int x5), some (.int 0), some (.int 0), some (.int 0), some (.int 0), some (.int 0), some (.int 0), some (.int 0), none, none, none, none, none, none, none, none, none] [.int x7] s4) (fun x7 h => ?_) (fun hJ8 => ?_)
  · intro _ hI
    refine r_istore (pc := 50) dL_holds_50 (by rw [gYn_nL, hnL]; decide) rfl ?_
    refine r_iconst (pc := 52) (v := 0) dL_holds_52 (by decide) ?_
    refine r_istore (pc := 53) dL_holds_53 (by rw [gYn_nL, hnL]; decide) rfl ?_
    refine r_jnK h (fun (k19 : Int32 → Int32 → Int32 → Int32 → Int32 → Int32 → Int32 → Int32 → gS × Nat → Option (gS × Int32)) => ∀ (x10 : Int32) (x11 : Int32) (x12 : Int32) (x13 : Int32) (x14 : Int32) (x15 : Int32) (x16 : Int32) (x17 : Int32) (s18 : gS × Nat), k19 x10 x11 x12 x13 x14 x15 x16 x17 s18 = some o → AL gI2 Y cL_holds RL 577 [some (.ref a1), none, none, none, some (.int x10), some (.int x11), some (.int x12), some (.int x13), some (.int x14), some (.int x15), some (.int x16), some (.int x17), none, none, none, none, none, none, none, none] [] s18) (fun x10 x11 x12 x13 x14 x15 x16 x17 s18 h => ?_) (fun k19 hJ20 h => ?_)
    · intro _ hI
      refine r_iconst (pc := 577) (v := 0) dL_holds_577 (by decide) ?_
      refine r_istore (pc := 578) dL_holds_578 (by rw [gYn_nL, hnL]; decide) rfl ?_
      refine r_iconst (pc := 580) (v := 0) dL_holds_580 (by decide) ?_
      refine r_istore (pc := 581) dL_holds_581 (by rw [gYn_nL, hnL]; decide) rfl ?_
      refine r_jnK h (fun (k23 : Int32 → gS × Nat → Option (gS × Int32)) => ∀ (x21 : Int32) (s22 : gS × Nat), k23 x21 s22 = some o → AL gI2 Y cL_holds RL 617 [some (.ref a1), none, none, none, some (.int x10), some (.int x11), some (.int x12), some (.int x13), some (.int x14), some (.int x15), some (.int x16), some (.int x17), some (.int x21), none, none, none, none, none, none, none] [] s22) (fun x21 s22 h => ?_) (fun k23 hJ24 h => ?_)
      · intro _ hI
        refine r_iload (pc := 617) dL_holds_617 rfl ?_
        refine r_if_eq (pc := 619) (tgt := 754) dL_holds_619 (by decide) h (fun h => ?_) (fun h => ?_)
        · refine r_iconst (pc := 754) (v := 0) dL_holds_754 (by decide) ?_
          exact r_zretA dL_holds_755 rfl h he hI
        · refine r_iload (pc := 622) dL_holds_622 rfl ?_
          refine r_bipush (pc := 624) (v := 15) dL_holds_624 (by decide) ?_
          refine r_icmp_ne (pc := 626) (tgt := 754) dL_holds_626 (by decide) h (fun h => ?_) (fun h => ?_)
          · refine r_iconst (pc := 754) (v := 0) dL_holds_754 (by decide) ?_
            exact r_zretA dL_holds_755 rfl h he hI
          · refine r_iload (pc := 629) dL_holds_629 rfl ?_
            refine r_aload_n (pc := 631) dL_holds_631 rfl rfl ?_
            refine r_iconst (pc := 632) (v := 2) dL_holds_632 (by decide) ?_
            refine r_iconst (pc := 633) (v := 3) dL_holds_633 (by decide) ?_
            refine r_iconst (pc := 634) (v := 0) dL_holds_634 (by decide) ?_
            refine r_iconst (pc := 635) (v := 0) dL_holds_635 (by decide) ?_
            obtain ⟨s25, x26, q27, eq27, kq27, h⟩ := gCN_some h
            refine r_callA (pc := 636) [.ref _, .int _, .int _, .int _, .int _] (taL_call _ hlt _ _ hF _ _ _ _ _ _ _ q27 h1) cd_L_call wL_190 nm_L_call rfl (by rw [hRm]; decide) rfl (Nat.le_of_ble_eq_true rfl) dL_holds_636 hB eq27 kq27 hI (fun _ hI => ?_)
            refine r_icmp_ne (pc := 639) (tgt := 754) dL_holds_639 (by decide) h (fun h => ?_) (fun h => ?_)
            · refine r_iconst (pc := 754) (v := 0) dL_holds_754 (by decide) ?_
              exact r_zretA dL_holds_755 rfl h he hI
            · refine r_iload (pc := 642) dL_holds_642 rfl ?_
              refine r_aload_n (pc := 644) dL_holds_644 rfl rfl ?_
              refine r_iconst (pc := 645) (v := 2) dL_holds_645 (by decide) ?_
              refine r_iconst (pc := 646) (v := 4) dL_holds_646 (by decide) ?_
              refine r_iconst (pc := 647) (v := 0) dL_holds_647 (by decide) ?_
              refine r_iconst (pc := 648) (v := 0) dL_holds_648 (by decide) ?_
              obtain ⟨s28, x29, q30, eq30, kq30, h⟩ := gCN_some h
              refine r_callA (pc := 649) [.ref _, .int _, .int _, .int _, .int _] (taL_call _ hlt _ _ hF _ _ _ _ _ _ _ q30 h1) cd_L_call wL_190 nm_L_call rfl (by rw [hRm]; decide) rfl (Nat.le_of_ble_eq_true rfl) dL_holds_649 hB eq30 kq30 hI (fun _ hI => ?_)
              refine r_icmp_ne (pc := 652) (tgt := 754) dL_holds_652 (by decide) h (fun h => ?_) (fun h => ?_)
              · refine r_iconst (pc := 754) (v := 0) dL_holds_754 (by decide) ?_
                exact r_zretA dL_holds_755 rfl h he hI
              · refine r_iload (pc := 655) dL_holds_655 rfl ?_
                refine r_aload_n (pc := 657) dL_holds_657 rfl rfl ?_
                refine r_iconst (pc := 658) (v := 2) dL_holds_658 (by decide) ?_
                refine r_bipush (pc := 659) (v := 7) dL_holds_659 (by decide) ?_
                refine r_iconst (pc := 661) (v := 0) dL_holds_661 (by decide) ?_
                refine r_iconst (pc := 662) (v := 0) dL_holds_662 (by decide) ?_
                obtain ⟨s31, x32, q33, eq33, kq33, h⟩ := gCN_some h
                refine r_callA (pc := 663) [.ref _, .int _, .int _, .int _, .int _] (taL_call _ hlt _ _ hF _ _ _ _ _ _ _ q33 h1) cd_L_call wL_190 nm_L_call rfl (by rw [hRm]; decide) rfl (Nat.le_of_ble_eq_true rfl) dL_holds_663 hB eq33 kq33 hI (fun _ hI => ?_)
                refine r_icmp_ne (pc := 666) (tgt := 754) dL_holds_666 (by decide) h (fun h => ?_) (fun h => ?_)
                · refine r_iconst (pc := 754) (v := 0) dL_holds_754 (by decide) ?_
                  exact r_zretA dL_holds_755 rfl h he hI
                · refine r_iload (pc := 669) dL_holds_669 rfl ?_
                  refine r_aload_n (pc := 671) dL_holds_671 rfl rfl ?_
                  refine r_iconst (pc := 672) (v := 2) dL_holds_672 (by decide) ?_
                  refine r_bipush (pc := 673) (v := 6) dL_holds_673 (by decide) ?_
                  refine r_iconst (pc := 675) (v := 0) dL_holds_675 (by decide) ?_
                  refine r_iconst (pc := 676) (v := 0) dL_holds_676 (by decide) ?_
                  obtain ⟨s34, x35, q36, eq36, kq36, h⟩ := gCN_some h
                  refine r_callA (pc := 677) [.ref _, .int _, .int _, .int _, .int _] (taL_call _ hlt _ _ hF _ _ _ _ _ _ _ q36 h1) cd_L_call wL_190 nm_L_call rfl (by rw [hRm]; decide) rfl (Nat.le_of_ble_eq_true rfl) dL_holds_677 hB eq36 kq36 hI (fun _ hI => ?_)
                  refine r_icmp_ne (pc := 680) (tgt := 754) dL_holds_680 (by decide) h (fun h => ?_) (fun h => ?_)
                  · refine r_iconst (pc := 754) (v := 0) dL_holds_754 (by decide) ?_
                    exact r_zretA dL_holds_755 rfl h he hI
                  · refine r_iload (pc := 683) dL_holds_683 rfl ?_
                    refine r_aload_n (pc := 685) dL_holds_685 rfl rfl ?_
                    refine r_iconst (pc := 686) (v := 2) dL_holds_686 (by decide) ?_
                    refine r_bipush (pc := 687) (v := 10) dL_holds_687 (by decide) ?_
                    refine r_iconst (pc := 689) (v := 0) dL_holds_689 (by decide) ?_
                    refine r_iconst (pc := 690) (v := 0) dL_holds_690 (by decide) ?_
                    obtain ⟨s37, x38, q39, eq39, kq39, h⟩ := gCN_some h
                    refine r_callA (pc := 691) [.ref _, .int _, .int _, .int _, .int _] (taL_call _ hlt _ _ hF _ _ _ _ _ _ _ q39 h1) cd_L_call wL_190 nm_L_call rfl (by rw [hRm]; decide) rfl (Nat.le_of_ble_eq_true rfl) dL_holds_691 hB eq39 kq39 hI (fun _ hI => ?_)
                    refine r_icmp_ne (pc := 694) (tgt := 754) dL_holds_694 (by decide) h (fun h => ?_) (fun h => ?_)
                    · refine r_iconst (pc := 754) (v := 0) dL_holds_754 (by decide) ?_
                      exact r_zretA dL_holds_755 rfl h he hI
                    · refine r_iload (pc := 697) dL_holds_697 rfl ?_
                      refine r_aload_n (pc := 699) dL_holds_699 rfl rfl ?_
                      refine r_iconst (pc := 700) (v := 2) dL_holds_700 (by decide) ?_
                      refine r_bipush (pc := 701) (v := 11) dL_holds_701 (by decide) ?_
                      refine r_iconst (pc := 703) (v := 0) dL_holds_703 (by decide) ?_
                      refine r_iconst (pc := 704) (v := 0) dL_holds_704 (by decide) ?_
                      obtain ⟨s40, x41, q42, eq42, kq42, h⟩ := gCN_some h
                      refine r_callA (pc := 705) [.ref _, .int _, .int _, .int _, .int _] (taL_call _ hlt _ _ hF _ _ _ _ _ _ _ q42 h1) cd_L_call wL_190 nm_L_call rfl (by rw [hRm]; decide) rfl (Nat.le_of_ble_eq_true rfl) dL_holds_705 hB eq42 kq42 hI (fun _ hI => ?_)
                      refine r_icmp_ne (pc := 708) (tgt := 754) dL_holds_708 (by decide) h (fun h => ?_) (fun h => ?_)
                      · refine r_iconst (pc := 754) (v := 0) dL_holds_754 (by decide) ?_
                        exact r_zretA dL_holds_755 rfl h he hI
                      · refine r_iload (pc := 711) dL_holds_711 rfl ?_
                        refine r_aload_n (pc := 713) dL_holds_713 rfl rfl ?_
                        refine r_iconst (pc := 714) (v := 2) dL_holds_714 (by decide) ?_
                        refine r_bipush (pc := 715) (v := 12) dL_holds_715 (by decide) ?_
                        refine r_iconst (pc := 717) (v := 0) dL_holds_717 (by decide) ?_
                        refine r_iconst (pc := 718) (v := 0) dL_holds_718 (by decide) ?_
                        obtain ⟨s43, x44, q45, eq45, kq45, h⟩ := gCN_some h
                        refine r_callA (pc := 719) [.ref _, .int _, .int _, .int _, .int _] (taL_call _ hlt _ _ hF _ _ _ _ _ _ _ q45 h1) cd_L_call wL_190 nm_L_call rfl (by rw [hRm]; decide) rfl (Nat.le_of_ble_eq_true rfl) dL_holds_719 hB eq45 kq45 hI (fun _ hI => ?_)
                        refine r_icmp_ne (pc := 722) (tgt := 754) dL_holds_722 (by decide) h (fun h => ?_) (fun h => ?_)
                        · refine r_iconst (pc := 754) (v := 0) dL_holds_754 (by decide) ?_
                          exact r_zretA dL_holds_755 rfl h he hI
                        · refine r_aload_n (pc := 725) dL_holds_725 rfl rfl ?_
                          refine r_iconst (pc := 726) (v := 2) dL_holds_726 (by decide) ?_
                          refine r_iconst (pc := 727) (v := 2) dL_holds_727 (by decide) ?_
                          refine r_iconst (pc := 728) (v := 0) dL_holds_728 (by decide) ?_
                          refine r_iconst (pc := 729) (v := 0) dL_holds_729 (by decide) ?_
                          obtain ⟨s46, x47, q48, eq48, kq48, h⟩ := gCN_some h
                          refine r_callA (pc := 730) [.ref _, .int _, .int _, .int _, .int _] (taL_call _ hlt _ _ hF _ _ _ _ _ _ _ q48 h1) cd_L_call wL_190 nm_L_call rfl (by rw [hRm]; decide) rfl (Nat.le_of_ble_eq_true rfl) dL_holds_730 hB eq48 kq48 hI (fun _ hI => ?_)
                          refine r_iload (pc := 733) dL_holds_733 rfl ?_
                          refine r_iload (pc := 735) dL_holds_735 rfl ?_
                          refine r_iadd (pc := 737) dL_holds_737 ?_
                          refine r_aload_n (pc := 738) dL_holds_738 rfl rfl ?_
                          refine r_iconst (pc := 739) (v := 2) dL_holds_739 (by decide) ?_
                          refine r_iconst (pc := 740) (v := 5) dL_holds_740 (by decide) ?_
                          refine r_iconst (pc := 741) (v := 0) dL_holds_741 (by decide) ?_
                          refine r_iconst (pc := 742) (v := 0) dL_holds_742 (by decide) ?_
                          obtain ⟨s49, x50, q51, eq51, kq51, h⟩ := gCN_some h
                          refine r_callA (pc := 743) [.ref _, .int _, .int _, .int _, .int _] (taL_call _ hlt _ _ hF _ _ _ _ _ _ _ q51 h1) cd_L_call wL_190 nm_L_call rfl (by rw [hRm]; decide) rfl (Nat.le_of_ble_eq_true rfl) dL_holds_743 hB eq51 kq51 hI (fun _ hI => ?_)
                          refine r_iadd (pc := 746) dL_holds_746 ?_
                          refine r_icmp_ne (pc := 747) (tgt := 754) dL_holds_747 (by decide) h (fun h => ?_) (fun h => ?_)
                          · refine r_iconst (pc := 754) (v := 0) dL_holds_754 (by decide) ?_
                            exact r_zretA dL_holds_755 rfl h he hI
                          · refine r_iconst (pc := 750) (v := 1) dL_holds_750 (by decide) ?_
                            refine r_goto (pc := 751) (tgt := 755) dL_holds_751 (by decide) ?_
                            exact r_zretA dL_holds_755 rfl h he hI
      have L59 : ∀ (n57 : Nat) (v60 : Int32) (v61 : Int32) (m62 : gS × Nat), fL_holds_L583 a1 x10 x11 x12 x13 x14 x15 x16 x17 k23 n57 v60 v61 m62 = some o → AL gI2 Y cL_holds RL 583 [some (.ref a1), none, none, none, some (.int x10), some (.int x11), some (.int x12), some (.int x13), some (.int x14), some (.int x15), some (.int x16), some (.int x17), some (.int v60), some (.int v61), none, none, none, none, none, none] [] m62 := by
        intro n57
        induction n57 with
        | zero =>
          intro v60 v61 m62 h
          exact absurd h (by simp [fL_holds_L583])
        | succ n57 ih58 =>
          intro v60 v61 m62 h
          rw [fL_holds_L583] at h
          intro _ hI
          refine r_iload (pc := 583) dL_holds_583 rfl ?_
          refine r_iconst (pc := 585) (v := 4) dL_holds_585 (by decide) ?_
          refine r_icmp_ge (pc := 586) (tgt := 617) dL_holds_586 (by decide) h (fun h => ?_) (fun h => ?_)
          · exact r_mask [true, false, false, false, true, true, true, true, true, true, true, true, true, false, false, false, false, false, false, false] rfl (hJ24 _ _ h _ hI)
          · refine r_iload (pc := 589) dL_holds_589 rfl ?_
            refine r_if_eq (pc := 591) (tgt := 617) dL_holds_591 (by decide) h (fun h => ?_) (fun h => ?_)
            · exact r_mask [true, false, false, false, true, true, true, true, true, true, true, true, true, false, false, false, false, false, false, false] rfl (hJ24 _ _ h _ hI)
            · refine r_iload (pc := 594) dL_holds_594 rfl ?_
              refine r_iconst (pc := 596) (v := 1) dL_holds_596 (by decide) ?_
              refine r_aload_n (pc := 597) dL_holds_597 rfl rfl ?_
              refine r_bipush (pc := 598) (v := 7) dL_holds_598 (by decide) ?_
              refine r_iload (pc := 600) dL_holds_600 rfl ?_
              refine r_iconst (pc := 602) (v := 0) dL_holds_602 (by decide) ?_
              refine r_iconst (pc := 603) (v := 0) dL_holds_603 (by decide) ?_
              obtain ⟨s63, x64, q65, eq65, kq65, h⟩ := gCN_some h
              refine r_callA (pc := 604) [.ref _, .int _, .int _, .int _, .int _] (taL_call _ hlt _ _ hF _ _ _ _ _ _ _ q65 h1) cd_L_call wL_190 nm_L_call rfl (by rw [hRm]; decide) rfl (Nat.le_of_ble_eq_true rfl) dL_holds_604 hB eq65 kq65 hI (fun _ hI => ?_)
              refine r_ishl (pc := 607) dL_holds_607 rfl ?_
              refine r_ior (pc := 608) dL_holds_608 ?_
              refine r_istoreL (pc := 609) dL_holds_609 (by rw [gYn_nL, hnL]; decide) h (fun x66 h => ?_)
              refine r_iinc (pc := 611) (d := 1) dL_holds_611 rfl (by decide) (by rw [gYn_nL, hnL]; decide) h (fun x67 h => ?_)
              refine r_goto (pc := 614) (tgt := 583) dL_holds_614 (by decide) ?_
              exact r_mask [true, false, false, false, true, true, true, true, true, true, true, true, true, true, false, false, false, false, false, false] rfl (ih58 _ _ _ h _ hI)
      exact r_mask [true, false, false, false, true, true, true, true, true, true, true, true, true, true, false, false, false, false, false, false] rfl (L59 _ _ _ _ h _ hI)
    have L207 : ∀ (n205 : Nat) (v208 : Int32) (v209 : Int32) (v210 : Int32) (v211 : Int32) (v212 : Int32) (v213 : Int32) (v214 : Int32) (v215 : Int32) (v216 : Int32) (m217 : gS × Nat), fL_holds_L55 a1 p2 x2 x5 k19 n205 v208 v209 v210 v211 v212 v213 v214 v215 v216 m217 = some o → AL gI2 Y cL_holds RL 55 [some (.ref a1), some (.int p2), some (.int x2), some (.int x5), some (.int v208), some (.int v209), some (.int v210), some (.int v211), some (.int v212), some (.int v213), some (.int v214), some (.int v215), some (.int v216), none, none, none, none, none, none, none] [] m217 := by
      intro n205
      induction n205 with
      | zero =>
        intro v208 v209 v210 v211 v212 v213 v214 v215 v216 m217 h
        exact absurd h (by simp [fL_holds_L55])
      | succ n205 ih206 =>
        intro v208 v209 v210 v211 v212 v213 v214 v215 v216 m217 h
        rw [fL_holds_L55] at h
        intro _ hI
        refine r_iload (pc := 55) dL_holds_55 rfl ?_
        refine r_iload_n (pc := 57) dL_holds_57 rfl rfl ?_
        refine r_icmp_ge (pc := 58) (tgt := 577) dL_holds_58 (by decide) h (fun h => ?_) (fun h => ?_)
        · exact r_mask [true, false, false, false, true, true, true, true, true, true, true, true, false, false, false, false, false, false, false, false] rfl (hJ20 _ _ _ _ _ _ _ _ _ h _ hI)
        · refine r_iload (pc := 61) dL_holds_61 rfl ?_
          refine r_if_eq (pc := 63) (tgt := 577) dL_holds_63 (by decide) h (fun h => ?_) (fun h => ?_)
          · exact r_mask [true, false, false, false, true, true, true, true, true, true, true, true, false, false, false, false, false, false, false, false] rfl (hJ20 _ _ _ _ _ _ _ _ _ h _ hI)
          · refine r_iconst (pc := 66) (v := 0) dL_holds_66 (by decide) ?_
            refine r_istore (pc := 67) dL_holds_67 (by rw [gYn_nL, hnL]; decide) rfl ?_
            refine r_iconst (pc := 69) (v := 0) dL_holds_69 (by decide) ?_
            refine r_istore (pc := 70) dL_holds_70 (by rw [gYn_nL, hnL]; decide) rfl ?_
            refine r_jnK h (fun (k220 : Int32 → gS × Nat → Option (gS × Int32)) => ∀ (x218 : Int32) (s219 : gS × Nat), k220 x218 s219 = some o → AL gI2 Y cL_holds RL 100 [some (.ref a1), some (.int p2), some (.int x2), some (.int x5), some (.int v208), some (.int v209), some (.int v210), some (.int v211), some (.int v212), some (.int v213), some (.int v214), none, some (.int v216), some (.int x218), none, none, none, none, none, none] [] s219) (fun x218 s219 h => ?_) (fun k220 hJ221 h => ?_)
            · intro _ hI
              refine r_aload_n (pc := 100) dL_holds_100 rfl rfl ?_
              refine r_iconst (pc := 101) (v := 3) dL_holds_101 (by decide) ?_
              refine r_iload (pc := 102) dL_holds_102 rfl ?_
              refine r_bipush (pc := 104) (v := 9) dL_holds_104 (by decide) ?_
              refine r_iconst (pc := 106) (v := 0) dL_holds_106 (by decide) ?_
              obtain ⟨s222, x223, q224, eq224, kq224, h⟩ := gCN_some h
              refine r_callA (pc := 107) [.ref _, .int _, .int _, .int _, .int _] (taL_call _ hlt _ _ hF _ _ _ _ _ _ _ q224 h1) cd_L_call wL_190 nm_L_call rfl (by rw [hRm]; decide) rfl (Nat.le_of_ble_eq_true rfl) dL_holds_107 hB eq224 kq224 hI (fun _ hI => ?_)
              refine r_istore (pc := 110) dL_holds_110 (by rw [gYn_nL, hnL]; decide) rfl ?_
              refine r_aload_n (pc := 112) dL_holds_112 rfl rfl ?_
              refine r_iconst (pc := 113) (v := 3) dL_holds_113 (by decide) ?_
              refine r_iload (pc := 114) dL_holds_114 rfl ?_
              refine r_bipush (pc := 116) (v := 10) dL_holds_116 (by decide) ?_
              refine r_iconst (pc := 118) (v := 0) dL_holds_118 (by decide) ?_
              obtain ⟨s225, x226, q227, eq227, kq227, h⟩ := gCN_some h
              refine r_callA (pc := 119) [.ref _, .int _, .int _, .int _, .int _] (taL_call _ hlt _ _ hF _ _ _ _ _ _ _ q227 h1) cd_L_call wL_190 nm_L_call rfl (by rw [hRm]; decide) rfl (Nat.le_of_ble_eq_true rfl) dL_holds_119 hB eq227 kq227 hI (fun _ hI => ?_)
              refine r_istore (pc := 122) dL_holds_122 (by rw [gYn_nL, hnL]; decide) rfl ?_
              refine r_aload_n (pc := 124) dL_holds_124 rfl rfl ?_
              refine r_bipush (pc := 125) (v := 17) dL_holds_125 (by decide) ?_
              refine r_iload (pc := 127) dL_holds_127 rfl ?_
              refine r_iconst (pc := 129) (v := 0) dL_holds_129 (by decide) ?_
              refine r_iconst (pc := 130) (v := 0) dL_holds_130 (by decide) ?_
              obtain ⟨s228, x229, q230, eq230, kq230, h⟩ := gCN_some h
              refine r_callA (pc := 131) [.ref _, .int _, .int _, .int _, .int _] (taL_call _ hlt _ _ hF _ _ _ _ _ _ _ q230 h1) cd_L_call wL_190 nm_L_call rfl (by rw [hRm]; decide) rfl (Nat.le_of_ble_eq_true rfl) dL_holds_131 hB eq230 kq230 hI (fun _ hI => ?_)
              refine r_istore (pc := 134) dL_holds_134 (by rw [gYn_nL, hnL]; decide) rfl ?_
              refine r_iload (pc := 136) dL_holds_136 rfl ?_
              refine r_aload_n (pc := 138) dL_holds_138 rfl rfl ?_
              refine r_iconst (pc := 139) (v := 3) dL_holds_139 (by decide) ?_
              refine r_iload (pc := 140) dL_holds_140 rfl ?_
              refine r_iconst (pc := 142) (v := 3) dL_holds_142 (by decide) ?_
              refine r_iconst (pc := 143) (v := 0) dL_holds_143 (by decide) ?_
              obtain ⟨s231, x232, q233, eq233, kq233, h⟩ := gCN_some h
              refine r_callA (pc := 144) [.ref _, .int _, .int _, .int _, .int _] (taL_call _ hlt _ _ hF _ _ _ _ _ _ _ q233 h1) cd_L_call wL_190 nm_L_call rfl (by rw [hRm]; decide) rfl (Nat.le_of_ble_eq_true rfl) dL_holds_144 hB eq233 kq233 hI (fun _ hI => ?_)
              refine r_iadd (pc := 147) dL_holds_147 ?_
              refine r_istoreL (pc := 148) dL_holds_148 (by rw [gYn_nL, hnL]; decide) h (fun x234 h => ?_)
              refine r_iload (pc := 150) dL_holds_150 rfl ?_
              refine r_aload_n (pc := 152) dL_holds_152 rfl rfl ?_
              refine r_iconst (pc := 153) (v := 3) dL_holds_153 (by decide) ?_
              refine r_iload (pc := 154) dL_holds_154 rfl ?_
              refine r_iconst (pc := 156) (v := 4) dL_holds_156 (by decide) ?_
              refine r_iconst (pc := 157) (v := 0) dL_holds_157 (by decide) ?_
              obtain ⟨s235, x236, q237, eq237, kq237, h⟩ := gCN_some h
              refine r_callA (pc := 158) [.ref _, .int _, .int _, .int _, .int _] (taL_call _ hlt _ _ hF _ _ _ _ _ _ _ q237 h1) cd_L_call wL_190 nm_L_call rfl (by rw [hRm]; decide) rfl (Nat.le_of_ble_eq_true rfl) dL_holds_158 hB eq237 kq237 hI (fun _ hI => ?_)
              refine r_iadd (pc := 161) dL_holds_161 ?_
              refine r_istoreL (pc := 162) dL_holds_162 (by rw [gYn_nL, hnL]; decide) h (fun x238 h => ?_)
              refine r_iload (pc := 164) dL_holds_164 rfl ?_
              refine r_aload_n (pc := 166) dL_holds_166 rfl rfl ?_
              refine r_iconst (pc := 167) (v := 3) dL_holds_167 (by decide) ?_
              refine r_iload (pc := 168) dL_holds_168 rfl ?_
              refine r_iconst (pc := 170) (v := 5) dL_holds_170 (by decide) ?_
              refine r_iconst (pc := 171) (v := 0) dL_holds_171 (by decide) ?_
              obtain ⟨s239, x240, q241, eq241, kq241, h⟩ := gCN_some h
              refine r_callA (pc := 172) [.ref _, .int _, .int _, .int _, .int _] (taL_call _ hlt _ _ hF _ _ _ _ _ _ _ q241 h1) cd_L_call wL_190 nm_L_call rfl (by rw [hRm]; decide) rfl (Nat.le_of_ble_eq_true rfl) dL_holds_172 hB eq241 kq241 hI (fun _ hI => ?_)
              refine r_iadd (pc := 175) dL_holds_175 ?_
              refine r_istoreL (pc := 176) dL_holds_176 (by rw [gYn_nL, hnL]; decide) h (fun x242 h => ?_)
              refine r_iload (pc := 178) dL_holds_178 rfl ?_
              refine r_aload_n (pc := 180) dL_holds_180 rfl rfl ?_
              refine r_iconst (pc := 181) (v := 3) dL_holds_181 (by decide) ?_
              refine r_iload (pc := 182) dL_holds_182 rfl ?_
              refine r_bipush (pc := 184) (v := 6) dL_holds_184 (by decide) ?_
              refine r_iconst (pc := 186) (v := 0) dL_holds_186 (by decide) ?_
              obtain ⟨s243, x244, q245, eq245, kq245, h⟩ := gCN_some h
              refine r_callA (pc := 187) [.ref _, .int _, .int _, .int _, .int _] (taL_call _ hlt _ _ hF _ _ _ _ _ _ _ q245 h1) cd_L_call wL_190 nm_L_call rfl (by rw [hRm]; decide) rfl (Nat.le_of_ble_eq_true rfl) dL_holds_187 hB eq245 kq245 hI (fun _ hI => ?_)
              refine r_iadd (pc := 190) dL_holds_190 ?_
              refine r_istoreL (pc := 191) dL_holds_191 (by rw [gYn_nL, hnL]; decide) h (fun x246 h => ?_)
              refine r_iload (pc := 193) dL_holds_193 rfl ?_
              refine r_aload_n (pc := 195) dL_holds_195 rfl rfl ?_
              refine r_iconst (pc := 196) (v := 3) dL_holds_196 (by decide) ?_
              refine r_iload (pc := 197) dL_holds_197 rfl ?_
              refine r_bipush (pc := 199) (v := 7) dL_holds_199 (by decide) ?_
              refine r_iconst (pc := 201) (v := 0) dL_holds_201 (by decide) ?_
              obtain ⟨s247, x248, q249, eq249, kq249, h⟩ := gCN_some h
              refine r_callA (pc := 202) [.ref _, .int _, .int _, .int _, .int _] (taL_call _ hlt _ _ hF _ _ _ _ _ _ _ q249 h1) cd_L_call wL_190 nm_L_call rfl (by rw [hRm]; decide) rfl (Nat.le_of_ble_eq_true rfl) dL_holds_202 hB eq249 kq249 hI (fun _ hI => ?_)
              refine r_iadd (pc := 205) dL_holds_205 ?_
              refine r_istoreL (pc := 206) dL_holds_206 (by rw [gYn_nL, hnL]; decide) h (fun x250 h => ?_)
              refine r_iload (pc := 208) dL_holds_208 rfl ?_
              refine r_aload_n (pc := 210) dL_holds_210 rfl rfl ?_
              refine r_iconst (pc := 211) (v := 3) dL_holds_211 (by decide) ?_
              refine r_iload (pc := 212) dL_holds_212 rfl ?_
              refine r_iconst (pc := 214) (v := 2) dL_holds_214 (by decide) ?_
              refine r_iconst (pc := 215) (v := 0) dL_holds_215 (by decide) ?_
              obtain ⟨s251, x252, q253, eq253, kq253, h⟩ := gCN_some h
              refine r_callA (pc := 216) [.ref _, .int _, .int _, .int _, .int _] (taL_call _ hlt _ _ hF _ _ _ _ _ _ _ q253 h1) cd_L_call wL_190 nm_L_call rfl (by rw [hRm]; decide) rfl (Nat.le_of_ble_eq_true rfl) dL_holds_216 hB eq253 kq253 hI (fun _ hI => ?_)
              refine r_iadd (pc := 219) dL_holds_219 ?_
              refine r_istoreL (pc := 220) dL_holds_220 (by rw [gYn_nL, hnL]; decide) h (fun x254 h => ?_)
              refine r_iload (pc := 222) dL_holds_222 rfl ?_
              refine r_iload (pc := 224) dL_holds_224 rfl ?_
              refine r_iadd (pc := 226) dL_holds_226 ?_
              refine r_istoreL (pc := 227) dL_holds_227 (by rw [gYn_nL, hnL]; decide) h (fun x255 h => ?_)
              refine r_iload (pc := 229) dL_holds_229 rfl ?_
              refine r_aload_n (pc := 231) dL_holds_231 rfl rfl ?_
              refine r_iconst (pc := 232) (v := 3) dL_holds_232 (by decide) ?_
              refine r_iload (pc := 233) dL_holds_233 rfl ?_
              refine r_iconst (pc := 235) (v := 1) dL_holds_235 (by decide) ?_
              refine r_iconst (pc := 236) (v := 0) dL_holds_236 (by decide) ?_
              obtain ⟨s256, x257, q258, eq258, kq258, h⟩ := gCN_some h
              refine r_callA (pc := 237) [.ref _, .int _, .int _, .int _, .int _] (taL_call _ hlt _ _ hF _ _ _ _ _ _ _ q258 h1) cd_L_call wL_190 nm_L_call rfl (by rw [hRm]; decide) rfl (Nat.le_of_ble_eq_true rfl) dL_holds_237 hB eq258 kq258 hI (fun _ hI => ?_)
              refine r_jnK h (fun (k261 : Int32 → gS × Nat → Option (gS × Int32)) => ∀ (x259 : Int32) (s260 : gS × Nat), k261 x259 s260 = some o → AL gI2 Y cL_holds RL 454 [some (.ref a1), some (.int p2), some (.int x2), some (.int x5), some (.int x234), some (.int x238), some (.int x242), some (.int x254), some (.int x246), some (.int x250), some (.int x255), none, some (.int v216), none, none, none, none, none, none, none] [.int x259] s260) (fun x259 s260 h => ?_) (fun k261 hJ262 h => ?_)
              · intro _ hI
                refine r_istore (pc := 454) dL_holds_454 (by rw [gYn_nL, hnL]; decide) rfl ?_
                refine r_iload_n (pc := 456) dL_holds_456 rfl rfl ?_
                refine r_sipush (pc := 457) (v := 1000) dL_holds_457 (by decide) ?_
                refine r_iremc (pc := 460) dL_holds_460 (by decide) ?_
                refine r_istoreL (pc := 461) dL_holds_461 (by rw [gYn_nL, hnL]; decide) h (fun x263 h => ?_)
                refine r_iload_n (pc := 463) dL_holds_463 rfl rfl ?_
                refine r_sipush (pc := 464) (v := 1000) dL_holds_464 (by decide) ?_
                refine r_idivc (pc := 467) dL_holds_467 (by decide) ?_
                refine r_sipush (pc := 468) (v := 400) dL_holds_468 (by decide) ?_
                refine r_iremc (pc := 471) dL_holds_471 (by decide) ?_
                refine r_istoreL (pc := 472) dL_holds_472 (by rw [gYn_nL, hnL]; decide) h (fun x264 h => ?_)
                refine r_iload (pc := 474) dL_holds_474 rfl ?_
                refine r_iconst (pc := 476) (v := 3) dL_holds_476 (by decide) ?_
                refine r_idivc (pc := 477) dL_holds_477 (by decide) ?_
                refine r_istoreL (pc := 478) dL_holds_478 (by rw [gYn_nL, hnL]; decide) h (fun x265 h => ?_)
                refine r_iload (pc := 480) dL_holds_480 rfl ?_
                refine r_if_eq (pc := 482) (tgt := 568) dL_holds_482 (by decide) h (fun h => ?_) (fun h => ?_)
                · refine r_iconst (pc := 568) (v := 0) dL_holds_568 (by decide) ?_
                  refine r_istore (pc := 569) dL_holds_569 (by rw [gYn_nL, hnL]; decide) rfl ?_
                  refine r_iinc (pc := 571) (d := 1) dL_holds_571 rfl (by decide) (by rw [gYn_nL, hnL]; decide) h (fun x266 h => ?_)
                  refine r_goto (pc := 574) (tgt := 55) dL_holds_574 (by decide) ?_
                  exact r_mask [true, true, true, true, true, true, true, true, true, true, true, true, true, false, false, false, false, false, false, false] rfl (ih206 _ _ _ _ _ _ _ _ _ _ h _ hI)
                · refine r_aload_n (pc := 485) dL_holds_485 rfl rfl ?_
                  refine r_iload (pc := 486) dL_holds_486 rfl ?_
                  refine r_iload (pc := 488) dL_holds_488 rfl ?_
                  refine r_iload (pc := 490) dL_holds_490 rfl ?_
                  refine r_iconst (pc := 492) (v := 0) dL_holds_492 (by decide) ?_
                  obtain ⟨s267, x268, q269, eq269, kq269, h⟩ := gCN_some h
                  refine r_callAW (pc := 493) [.ref _, .int _, .int _, .int _, .int _] (taL_dues _ hlt _ _ hF _ _ _ _ _ _ _ q269 h1) cd_L_dues wL_194 nm_L_dues rfl (by rw [hRm]; decide) rfl (Nat.le_of_ble_eq_true rfl) dL_holds_493 hB eq269 kq269 hI (fun _ hI => ?_)
                  refine r_aload_n (pc := 496) dL_holds_496 rfl rfl ?_
                  refine r_iload (pc := 497) dL_holds_497 rfl ?_
                  refine r_iload (pc := 499) dL_holds_499 rfl ?_
                  refine r_iload (pc := 501) dL_holds_501 rfl ?_
                  refine r_iconst (pc := 503) (v := 1) dL_holds_503 (by decide) ?_
                  obtain ⟨s270, x271, q272, eq272, kq272, h⟩ := gCN_some h
                  refine r_callAW (pc := 504) [.ref _, .int _, .int _, .int _, .int _] (taL_dues _ hlt _ _ hF _ _ _ _ _ _ _ q272 h1) cd_L_dues wL_194 nm_L_dues rfl (by rw [hRm]; decide) rfl (Nat.le_of_ble_eq_true rfl) dL_holds_504 hB eq272 kq272 hI (fun _ hI => ?_)
                  refine r_icmp_ne (pc := 507) (tgt := 568) dL_holds_507 (by decide) h (fun h => ?_) (fun h => ?_)
                  · refine r_iconst (pc := 568) (v := 0) dL_holds_568 (by decide) ?_
                    refine r_istore (pc := 569) dL_holds_569 (by rw [gYn_nL, hnL]; decide) rfl ?_
                    refine r_iinc (pc := 571) (d := 1) dL_holds_571 rfl (by decide) (by rw [gYn_nL, hnL]; decide) h (fun x273 h => ?_)
                    refine r_goto (pc := 574) (tgt := 55) dL_holds_574 (by decide) ?_
                    exact r_mask [true, true, true, true, true, true, true, true, true, true, true, true, true, false, false, false, false, false, false, false] rfl (ih206 _ _ _ _ _ _ _ _ _ _ h _ hI)
                  · refine r_iload (pc := 510) dL_holds_510 rfl ?_
                    refine r_iload (pc := 512) dL_holds_512 rfl ?_
                    refine r_iadd (pc := 514) dL_holds_514 ?_
                    refine r_sipush (pc := 515) (v := 999) dL_holds_515 (by decide) ?_
                    refine r_icmp_gt (pc := 518) (tgt := 564) dL_holds_518 (by decide) h (fun h => ?_) (fun h => ?_)
                    · refine r_iconst (pc := 564) (v := 1) dL_holds_564 (by decide) ?_
                      refine r_goto (pc := 565) (tgt := 569) dL_holds_565 (by decide) ?_
                      refine r_istore (pc := 569) dL_holds_569 (by rw [gYn_nL, hnL]; decide) rfl ?_
                      refine r_iinc (pc := 571) (d := 1) dL_holds_571 rfl (by decide) (by rw [gYn_nL, hnL]; decide) h (fun x274 h => ?_)
                      refine r_goto (pc := 574) (tgt := 55) dL_holds_574 (by decide) ?_
                      exact r_mask [true, true, true, true, true, true, true, true, true, true, true, true, true, false, false, false, false, false, false, false] rfl (ih206 _ _ _ _ _ _ _ _ _ _ h _ hI)
                    · refine r_aload_n (pc := 521) dL_holds_521 rfl rfl ?_
                      refine r_iload (pc := 522) dL_holds_522 rfl ?_
                      refine r_iload (pc := 524) dL_holds_524 rfl ?_
                      refine r_iload (pc := 526) dL_holds_526 rfl ?_
                      refine r_iconst (pc := 528) (v := 1) dL_holds_528 (by decide) ?_
                      obtain ⟨s275, x276, q277, eq277, kq277, h⟩ := gCN_some h
                      refine r_callAW (pc := 529) [.ref _, .int _, .int _, .int _, .int _] (taL_dues _ hlt _ _ hF _ _ _ _ _ _ _ q277 h1) cd_L_dues wL_194 nm_L_dues rfl (by rw [hRm]; decide) rfl (Nat.le_of_ble_eq_true rfl) dL_holds_529 hB eq277 kq277 hI (fun _ hI => ?_)
                      refine r_aload_n (pc := 532) dL_holds_532 rfl rfl ?_
                      refine r_iload (pc := 533) dL_holds_533 rfl ?_
                      refine r_iload (pc := 535) dL_holds_535 rfl ?_
                      refine r_iload (pc := 537) dL_holds_537 rfl ?_
                      refine r_iadd (pc := 539) dL_holds_539 ?_
                      refine r_iload (pc := 540) dL_holds_540 rfl ?_
                      refine r_iload (pc := 542) dL_holds_542 rfl ?_
                      refine r_isub (pc := 544) dL_holds_544 ?_
                      refine r_iconst (pc := 545) (v := 1) dL_holds_545 (by decide) ?_
                      obtain ⟨s278, x279, q280, eq280, kq280, h⟩ := gCN_some h
                      refine r_callAW (pc := 546) [.ref _, .int _, .int _, .int _, .int _] (taL_dues _ hlt _ _ hF _ _ _ _ _ _ _ q280 h1) cd_L_dues wL_194 nm_L_dues rfl (by rw [hRm]; decide) rfl (Nat.le_of_ble_eq_true rfl) dL_holds_546 hB eq280 kq280 hI (fun _ hI => ?_)
                      refine r_iadd (pc := 549) dL_holds_549 ?_
                      refine r_aload_n (pc := 550) dL_holds_550 rfl rfl ?_
                      refine r_iload (pc := 551) dL_holds_551 rfl ?_
                      refine r_iload (pc := 553) dL_holds_553 rfl ?_
                      refine r_iload (pc := 555) dL_holds_555 rfl ?_
                      refine r_iconst (pc := 557) (v := 1) dL_holds_557 (by decide) ?_
                      obtain ⟨s281, x282, q283, eq283, kq283, h⟩ := gCN_some h
                      refine r_callAW (pc := 558) [.ref _, .int _, .int _, .int _, .int _] (taL_dues _ hlt _ _ hF _ _ _ _ _ _ _ q283 h1) cd_L_dues wL_194 nm_L_dues rfl (by rw [hRm]; decide) rfl (Nat.le_of_ble_eq_true rfl) dL_holds_558 hB eq283 kq283 hI (fun _ hI => ?_)
                      refine r_jn1 h (fun x284 => AL gI2 Y cL_holds RL 569 [some (.ref a1), some (.int p2), some (.int x2), some (.int x5), some (.int x234), some (.int x238), some (.int x242), some (.int x254), some (.int x246), some (.int x250), some (.int x255), none, some (.int v216), none, none, none, none, none, none, none] [.int x284] s281) (fun x284 h => ?_) (fun hJ285 => ?_)
                      · intro _ hI
                        refine r_istore (pc := 569) dL_holds_569 (by rw [gYn_nL, hnL]; decide) rfl ?_
                        refine r_iinc (pc := 571) (d := 1) dL_holds_571 rfl (by decide) (by rw [gYn_nL, hnL]; decide) h (fun x287 h => ?_)
                        refine r_goto (pc := 574) (tgt := 55) dL_holds_574 (by decide) ?_
                        exact r_mask [true, true, true, true, true, true, true, true, true, true, true, true, true, false, false, false, false, false, false, false] rfl (ih206 _ _ _ _ _ _ _ _ _ _ h _ hI)
                      · refine r_icmpC_ne (pc := 561) (tgt := 568) dL_holds_561 (by decide) (fun g286 => ?_) (fun g286 => ?_)
                        · refine r_iconst (pc := 568) (v := 0) dL_holds_568 (by decide) ?_
                          exact r_mask [true, true, true, true, true, true, true, true, true, true, true, false, true, false, false, false, false, false, false, false] rfl (hJ285 _ (by rw [if_neg g286]) _ hI)
                        · refine r_iconst (pc := 564) (v := 1) dL_holds_564 (by decide) ?_
                          refine r_goto (pc := 565) (tgt := 569) dL_holds_565 (by decide) ?_
                          exact r_mask [true, true, true, true, true, true, true, true, true, true, true, false, true, false, false, false, false, false, false, false] rfl (hJ285 _ (by rw [if_pos g286]) _ hI)
              refine r_icmp_ne (pc := 240) (tgt := 453) dL_holds_240 (by decide) h (fun h => ?_) (fun h => ?_)
              · refine r_iconst (pc := 453) (v := 0) dL_holds_453 (by decide) ?_
                exact r_mask [true, true, true, true, true, true, true, true, true, true, true, false, true, false, false, false, false, false, false, false] rfl (hJ262 _ _ h _ hI)
              · refine r_aload_n (pc := 243) dL_holds_243 rfl rfl ?_
                refine r_iconst (pc := 244) (v := 3) dL_holds_244 (by decide) ?_
                refine r_iload (pc := 245) dL_holds_245 rfl ?_
                refine r_iconst (pc := 247) (v := 2) dL_holds_247 (by decide) ?_
                refine r_iconst (pc := 248) (v := 0) dL_holds_248 (by decide) ?_
                obtain ⟨s288, x289, q290, eq290, kq290, h⟩ := gCN_some h
                refine r_callA (pc := 249) [.ref _, .int _, .int _, .int _, .int _] (taL_call _ hlt _ _ hF _ _ _ _ _ _ _ q290 h1) cd_L_call wL_190 nm_L_call rfl (by rw [hRm]; decide) rfl (Nat.le_of_ble_eq_true rfl) dL_holds_249 hB eq290 kq290 hI (fun _ hI => ?_)
                refine r_if_lt (pc := 252) (tgt := 453) dL_holds_252 (by decide) h (fun h => ?_) (fun h => ?_)
                · refine r_iconst (pc := 453) (v := 0) dL_holds_453 (by decide) ?_
                  exact r_mask [true, true, true, true, true, true, true, true, true, true, true, false, true, false, false, false, false, false, false, false] rfl (hJ262 _ _ h _ hI)
                · refine r_iload (pc := 255) dL_holds_255 rfl ?_
                  refine r_iconst (pc := 257) (v := (-1)) dL_holds_257 (by decide) ?_
                  refine r_jnK h (fun (k292 : gS × Nat → Option (gS × Int32)) => ∀ (s291 : gS × Nat), k292 s291 = some o → AL gI2 Y cL_holds RL 277 [some (.ref a1), some (.int p2), some (.int x2), some (.int x5), some (.int x234), some (.int x238), some (.int x242), some (.int x254), some (.int x246), some (.int x250), some (.int x255), none, some (.int v216), none, some (.int x223), some (.int x226), some (.int x229), none, none, none] [] s291) (fun s291 h => ?_) (fun k292 hJ293 h => ?_)
                  · intro _ hI
                    refine r_iload (pc := 277) dL_holds_277 rfl ?_
                    refine r_iload_n (pc := 279) dL_holds_279 rfl rfl ?_
                    refine r_jn1 h (fun x294 => AL gI2 Y cL_holds RL 288 [some (.ref a1), some (.int p2), some (.int x2), some (.int x5), some (.int x234), some (.int x238), some (.int x242), some (.int x254), some (.int x246), some (.int x250), some (.int x255), none, some (.int v216), none, some (.int x223), none, some (.int x229), none, none, none] [.int x294] s291) (fun x294 h => ?_) (fun hJ295 => ?_)
                    · intro _ hI
                      refine r_iload (pc := 288) dL_holds_288 rfl ?_
                      refine r_jn1 h (fun x297 => AL gI2 Y cL_holds RL 298 [some (.ref a1), some (.int p2), some (.int x2), some (.int x5), some (.int x234), some (.int x238), some (.int x242), some (.int x254), some (.int x246), some (.int x250), some (.int x255), none, some (.int v216), none, some (.int x223), none, some (.int x229), none, none, none] [.int x297, .int x294] s291) (fun x297 h => ?_) (fun hJ298 => ?_)
                      · intro _ hI
                        refine r_icmp_ne (pc := 298) (tgt := 453) dL_holds_298 (by decide) h (fun h => ?_) (fun h => ?_)
                        · refine r_iconst (pc := 453) (v := 0) dL_holds_453 (by decide) ?_
                          exact r_mask [true, true, true, true, true, true, true, true, true, true, true, false, true, false, false, false, false, false, false, false] rfl (hJ262 _ _ h _ hI)
                        · refine r_iload (pc := 301) dL_holds_301 rfl ?_
                          refine r_jnK h (fun (k301 : gS × Nat → Option (gS × Int32)) => ∀ (s300 : gS × Nat), k301 s300 = some o → AL gI2 Y cL_holds RL 318 [some (.ref a1), some (.int p2), some (.int x2), some (.int x5), some (.int x234), some (.int x238), some (.int x242), some (.int x254), some (.int x246), some (.int x250), some (.int x255), none, some (.int v216), none, some (.int x223), none, some (.int x229), none, none, none] [] s300) (fun s300 h => ?_) (fun k301 hJ302 h => ?_)
                          · intro _ hI
                            refine r_iload (pc := 318) dL_holds_318 rfl ?_
                            refine r_iconst (pc := 320) (v := 2) dL_holds_320 (by decide) ?_
                            refine r_jnK h (fun (k304 : gS × Nat → Option (gS × Int32)) => ∀ (s303 : gS × Nat), k304 s303 = some o → AL gI2 Y cL_holds RL 334 [some (.ref a1), some (.int p2), some (.int x2), some (.int x5), some (.int x234), some (.int x238), some (.int x242), some (.int x254), some (.int x246), some (.int x250), some (.int x255), none, some (.int v216), none, some (.int x223), none, some (.int x229), none, none, none] [] s303) (fun s303 h => ?_) (fun k304 hJ305 h => ?_)
                            · intro _ hI
                              refine r_aload_n (pc := 334) dL_holds_334 rfl rfl ?_
                              refine r_bipush (pc := 335) (v := 6) dL_holds_335 (by decide) ?_
                              refine r_aload_n (pc := 337) dL_holds_337 rfl rfl ?_
                              refine r_iconst (pc := 338) (v := 3) dL_holds_338 (by decide) ?_
                              refine r_iload (pc := 339) dL_holds_339 rfl ?_
                              refine r_iconst (pc := 341) (v := 0) dL_holds_341 (by decide) ?_
                              refine r_iconst (pc := 342) (v := 0) dL_holds_342 (by decide) ?_
                              obtain ⟨s306, x307, q308, eq308, kq308, h⟩ := gCN_some h
                              refine r_callA (pc := 343) [.ref _, .int _, .int _, .int _, .int _] (taL_call _ hlt _ _ hF _ _ _ _ _ _ _ q308 h1) cd_L_call wL_190 nm_L_call rfl (by rw [hRm]; decide) rfl (Nat.le_of_ble_eq_true rfl) dL_holds_343 hB eq308 kq308 hI (fun _ hI => ?_)
                              refine r_iload_n (pc := 346) dL_holds_346 rfl rfl ?_
                              refine r_bipush (pc := 347) (v := 7) dL_holds_347 (by decide) ?_
                              refine r_iremc (pc := 349) dL_holds_349 (by decide) ?_
                              refine r_iconst (pc := 350) (v := 0) dL_holds_350 (by decide) ?_
                              obtain ⟨s309, x310, q311, eq311, kq311, h⟩ := gCN_some h
                              refine r_callA (pc := 351) [.ref _, .int _, .int _, .int _, .int _] (taL_call _ hlt _ _ hF _ _ _ _ _ _ _ q311 h1) cd_L_call wL_190 nm_L_call rfl (by rw [hRm]; decide) rfl (Nat.le_of_ble_eq_true rfl) dL_holds_351 hB eq311 kq311 hI (fun _ hI => ?_)
                              refine r_jnK h (fun (k313 : gS × Nat → Option (gS × Int32)) => ∀ (s312 : gS × Nat), k313 s312 = some o → AL gI2 Y cL_holds RL 368 [some (.ref a1), some (.int p2), some (.int x2), some (.int x5), some (.int x234), some (.int x238), some (.int x242), some (.int x254), some (.int x246), some (.int x250), some (.int x255), none, some (.int v216), none, some (.int x223), none, none, none, none, none] [] s312) (fun s312 h => ?_) (fun k313 hJ314 h => ?_)
                              · intro _ hI
                                refine r_iload_n (pc := 368) dL_holds_368 rfl rfl ?_
                                refine r_sipush (pc := 369) (v := 999) dL_holds_369 (by decide) ?_
                                refine r_jnK h (fun (k316 : gS × Nat → Option (gS × Int32)) => ∀ (s315 : gS × Nat), k316 s315 = some o → AL gI2 Y cL_holds RL 389 [some (.ref a1), some (.int p2), some (.int x2), some (.int x5), some (.int x234), some (.int x238), some (.int x242), some (.int x254), some (.int x246), some (.int x250), some (.int x255), none, some (.int v216), none, none, none, none, none, none, none] [] s315) (fun s315 h => ?_) (fun k316 hJ317 h => ?_)
                                · intro _ hI
                                  refine r_aload_n (pc := 389) dL_holds_389 rfl rfl ?_
                                  refine r_bipush (pc := 390) (v := 19) dL_holds_390 (by decide) ?_
                                  refine r_iload (pc := 392) dL_holds_392 rfl ?_
                                  refine r_iconst (pc := 394) (v := 0) dL_holds_394 (by decide) ?_
                                  refine r_iconst (pc := 395) (v := 0) dL_holds_395 (by decide) ?_
                                  obtain ⟨s318, x319, q320, eq320, kq320, h⟩ := gCN_some h
                                  refine r_callA (pc := 396) [.ref _, .int _, .int _, .int _, .int _] (taL_call _ hlt _ _ hF _ _ _ _ _ _ _ q320 h1) cd_L_call wL_190 nm_L_call rfl (by rw [hRm]; decide) rfl (Nat.le_of_ble_eq_true rfl) dL_holds_396 hB eq320 kq320 hI (fun _ hI => ?_)
                                  refine r_jn1 h (fun x321 => AL gI2 Y cL_holds RL 407 [some (.ref a1), some (.int p2), some (.int x2), some (.int x5), some (.int x234), some (.int x238), some (.int x242), some (.int x254), some (.int x246), some (.int x250), some (.int x255), none, some (.int v216), none, none, none, none, none, none, none] [.int x321] s318) (fun x321 h => ?_) (fun hJ322 => ?_)
                                  · intro _ hI
                                    refine r_aload_n (pc := 407) dL_holds_407 rfl rfl ?_
                                    refine r_iconst (pc := 408) (v := 3) dL_holds_408 (by decide) ?_
                                    refine r_iload (pc := 409) dL_holds_409 rfl ?_
                                    refine r_iconst (pc := 411) (v := 2) dL_holds_411 (by decide) ?_
                                    refine r_iconst (pc := 412) (v := 0) dL_holds_412 (by decide) ?_
                                    obtain ⟨s324, x325, q326, eq326, kq326, h⟩ := gCN_some h
                                    refine r_callA (pc := 413) [.ref _, .int _, .int _, .int _, .int _] (taL_call _ hlt _ _ hF _ _ _ _ _ _ _ q326 h1) cd_L_call wL_190 nm_L_call rfl (by rw [hRm]; decide) rfl (Nat.le_of_ble_eq_true rfl) dL_holds_413 hB eq326 kq326 hI (fun _ hI => ?_)
                                    refine r_jn1 h (fun x327 => AL gI2 Y cL_holds RL 424 [some (.ref a1), some (.int p2), some (.int x2), some (.int x5), some (.int x234), some (.int x238), some (.int x242), some (.int x254), some (.int x246), some (.int x250), some (.int x255), none, some (.int v216), none, none, none, none, none, none, none] [.int x327, .int x321] s324) (fun x327 h => ?_) (fun hJ328 => ?_)
                                    · intro _ hI
                                      refine r_icmp_ne (pc := 424) (tgt := 453) dL_holds_424 (by decide) h (fun h => ?_) (fun h => ?_)
                                      · refine r_iconst (pc := 453) (v := 0) dL_holds_453 (by decide) ?_
                                        exact r_mask [true, true, true, true, true, true, true, true, true, true, true, false, true, false, false, false, false, false, false, false] rfl (hJ262 _ _ h _ hI)
                                      · refine r_aload_n (pc := 427) dL_holds_427 rfl rfl ?_
                                        refine r_bipush (pc := 428) (v := 18) dL_holds_428 (by decide) ?_
                                        refine r_iload (pc := 430) dL_holds_430 rfl ?_
                                        refine r_iconst (pc := 432) (v := 0) dL_holds_432 (by decide) ?_
                                        refine r_iconst (pc := 433) (v := 0) dL_holds_433 (by decide) ?_
                                        obtain ⟨s330, x331, q332, eq332, kq332, h⟩ := gCN_some h
                                        refine r_callA (pc := 434) [.ref _, .int _, .int _, .int _, .int _] (taL_call _ hlt _ _ hF _ _ _ _ _ _ _ q332 h1) cd_L_call wL_190 nm_L_call rfl (by rw [hRm]; decide) rfl (Nat.le_of_ble_eq_true rfl) dL_holds_434 hB eq332 kq332 hI (fun _ hI => ?_)
                                        refine r_aload_n (pc := 437) dL_holds_437 rfl rfl ?_
                                        refine r_iconst (pc := 438) (v := 3) dL_holds_438 (by decide) ?_
                                        refine r_iload (pc := 439) dL_holds_439 rfl ?_
                                        refine r_iconst (pc := 441) (v := 2) dL_holds_441 (by decide) ?_
                                        refine r_iconst (pc := 442) (v := 0) dL_holds_442 (by decide) ?_
                                        obtain ⟨s333, x334, q335, eq335, kq335, h⟩ := gCN_some h
                                        refine r_callA (pc := 443) [.ref _, .int _, .int _, .int _, .int _] (taL_call _ hlt _ _ hF _ _ _ _ _ _ _ q335 h1) cd_L_call wL_190 nm_L_call rfl (by rw [hRm]; decide) rfl (Nat.le_of_ble_eq_true rfl) dL_holds_443 hB eq335 kq335 hI (fun _ hI => ?_)
                                        refine r_icmp_ne (pc := 446) (tgt := 453) dL_holds_446 (by decide) h (fun h => ?_) (fun h => ?_)
                                        · refine r_iconst (pc := 453) (v := 0) dL_holds_453 (by decide) ?_
                                          exact r_mask [true, true, true, true, true, true, true, true, true, true, true, false, true, false, false, false, false, false, false, false] rfl (hJ262 _ _ h _ hI)
                                        · refine r_iconst (pc := 449) (v := 1) dL_holds_449 (by decide) ?_
                                          refine r_goto (pc := 450) (tgt := 454) dL_holds_450 (by decide) ?_
                                          exact r_mask [true, true, true, true, true, true, true, true, true, true, true, false, true, false, false, false, false, false, false, false] rfl (hJ262 _ _ h _ hI)
                                    · refine r_ifC_ne (pc := 416) (tgt := 423) dL_holds_416 (by decide) (fun g329 => ?_) (fun g329 => ?_)
                                      · refine r_iconst (pc := 423) (v := 0) dL_holds_423 (by decide) ?_
                                        exact r_mask [true, true, true, true, true, true, true, true, true, true, true, false, true, false, false, false, false, false, false, false] rfl (hJ328 _ (by rw [if_neg g329]) _ hI)
                                      · refine r_iconst (pc := 419) (v := 1) dL_holds_419 (by decide) ?_
                                        refine r_goto (pc := 420) (tgt := 424) dL_holds_420 (by decide) ?_
                                        exact r_mask [true, true, true, true, true, true, true, true, true, true, true, false, true, false, false, false, false, false, false, false] rfl (hJ328 _ (by rw [if_pos g329]) _ hI)
                                  · refine r_ifC_ne (pc := 399) (tgt := 406) dL_holds_399 (by decide) (fun g323 => ?_) (fun g323 => ?_)
                                    · refine r_iconst (pc := 406) (v := 0) dL_holds_406 (by decide) ?_
                                      exact r_mask [true, true, true, true, true, true, true, true, true, true, true, false, true, false, false, false, false, false, false, false] rfl (hJ322 _ (by rw [if_neg g323]) _ hI)
                                    · refine r_iconst (pc := 402) (v := 1) dL_holds_402 (by decide) ?_
                                      refine r_goto (pc := 403) (tgt := 407) dL_holds_403 (by decide) ?_
                                      exact r_mask [true, true, true, true, true, true, true, true, true, true, true, false, true, false, false, false, false, false, false, false] rfl (hJ322 _ (by rw [if_pos g323]) _ hI)
                                refine r_icmp_gt (pc := 372) (tgt := 389) dL_holds_372 (by decide) h (fun h => ?_) (fun h => ?_)
                                · exact r_mask [true, true, true, true, true, true, true, true, true, true, true, false, true, false, false, false, false, false, false, false] rfl (hJ317 _ h _ hI)
                                · refine r_iload (pc := 375) dL_holds_375 rfl ?_
                                  refine r_aload_n (pc := 377) dL_holds_377 rfl rfl ?_
                                  refine r_iload (pc := 378) dL_holds_378 rfl ?_
                                  refine r_iload_n (pc := 380) dL_holds_380 rfl rfl ?_
                                  refine r_iconst (pc := 381) (v := 1) dL_holds_381 (by decide) ?_
                                  refine r_iconst (pc := 382) (v := 0) dL_holds_382 (by decide) ?_
                                  obtain ⟨s336, x337, q338, eq338, kq338, h⟩ := gCN_some h
                                  refine r_callAW (pc := 383) [.ref _, .int _, .int _, .int _, .int _] (taL_dues _ hlt _ _ hF _ _ _ _ _ _ _ q338 h1) cd_L_dues wL_194 nm_L_dues rfl (by rw [hRm]; decide) rfl (Nat.le_of_ble_eq_true rfl) dL_holds_383 hB eq338 kq338 hI (fun _ hI => ?_)
                                  refine r_icmp_ne (pc := 386) (tgt := 453) dL_holds_386 (by decide) h (fun h => ?_) (fun h => ?_)
                                  · refine r_iconst (pc := 453) (v := 0) dL_holds_453 (by decide) ?_
                                    exact r_mask [true, true, true, true, true, true, true, true, true, true, true, false, true, false, false, false, false, false, false, false] rfl (hJ262 _ _ h _ hI)
                                  · exact r_mask [true, true, true, true, true, true, true, true, true, true, true, false, true, false, false, false, false, false, false, false] rfl (hJ317 _ h _ hI)
                              refine r_if_eq (pc := 354) (tgt := 368) dL_holds_354 (by decide) h (fun h => ?_) (fun h => ?_)
                              · exact r_mask [true, true, true, true, true, true, true, true, true, true, true, false, true, false, true, false, false, false, false, false] rfl (hJ314 _ h _ hI)
                              · refine r_iload (pc := 357) dL_holds_357 rfl ?_
                                refine r_if_le (pc := 359) (tgt := 453) dL_holds_359 (by decide) h (fun h => ?_) (fun h => ?_)
                                · refine r_iconst (pc := 453) (v := 0) dL_holds_453 (by decide) ?_
                                  exact r_mask [true, true, true, true, true, true, true, true, true, true, true, false, true, false, false, false, false, false, false, false] rfl (hJ262 _ _ h _ hI)
                                · refine r_iload (pc := 362) dL_holds_362 rfl ?_
                                  refine r_iconst (pc := 364) (v := 4) dL_holds_364 (by decide) ?_
                                  refine r_icmp_ge (pc := 365) (tgt := 453) dL_holds_365 (by decide) h (fun h => ?_) (fun h => ?_)
                                  · refine r_iconst (pc := 453) (v := 0) dL_holds_453 (by decide) ?_
                                    exact r_mask [true, true, true, true, true, true, true, true, true, true, true, false, true, false, false, false, false, false, false, false] rfl (hJ262 _ _ h _ hI)
                                  · exact r_mask [true, true, true, true, true, true, true, true, true, true, true, false, true, false, true, false, false, false, false, false] rfl (hJ314 _ h _ hI)
                            refine r_icmp_gt (pc := 321) (tgt := 334) dL_holds_321 (by decide) h (fun h => ?_) (fun h => ?_)
                            · exact r_mask [true, true, true, true, true, true, true, true, true, true, true, false, true, false, true, false, true, false, false, false] rfl (hJ305 _ h _ hI)
                            · refine r_iload (pc := 324) dL_holds_324 rfl ?_
                              refine r_if_eq (pc := 326) (tgt := 334) dL_holds_326 (by decide) h (fun h => ?_) (fun h => ?_)
                              · exact r_mask [true, true, true, true, true, true, true, true, true, true, true, false, true, false, true, false, true, false, false, false] rfl (hJ305 _ h _ hI)
                              · refine r_iload (pc := 329) dL_holds_329 rfl ?_
                                refine r_if_ne (pc := 331) (tgt := 453) dL_holds_331 (by decide) h (fun h => ?_) (fun h => ?_)
                                · refine r_iconst (pc := 453) (v := 0) dL_holds_453 (by decide) ?_
                                  exact r_mask [true, true, true, true, true, true, true, true, true, true, true, false, true, false, false, false, false, false, false, false] rfl (hJ262 _ _ h _ hI)
                                · exact r_mask [true, true, true, true, true, true, true, true, true, true, true, false, true, false, true, false, true, false, false, false] rfl (hJ305 _ h _ hI)
                          refine r_if_gt (pc := 303) (tgt := 318) dL_holds_303 (by decide) h (fun h => ?_) (fun h => ?_)
                          · exact r_mask [true, true, true, true, true, true, true, true, true, true, true, false, true, false, true, false, true, false, false, false] rfl (hJ302 _ h _ hI)
                          · refine r_iload (pc := 306) dL_holds_306 rfl ?_
                            refine r_iconst (pc := 308) (v := 1) dL_holds_308 (by decide) ?_
                            refine r_icmp_eq (pc := 309) (tgt := 318) dL_holds_309 (by decide) h (fun h => ?_) (fun h => ?_)
                            · exact r_mask [true, true, true, true, true, true, true, true, true, true, true, false, true, false, true, false, true, false, false, false] rfl (hJ302 _ h _ hI)
                            · refine r_iload (pc := 312) dL_holds_312 rfl ?_
                              refine r_iconst (pc := 314) (v := 2) dL_holds_314 (by decide) ?_
                              refine r_icmp_ne (pc := 315) (tgt := 453) dL_holds_315 (by decide) h (fun h => ?_) (fun h => ?_)
                              · refine r_iconst (pc := 453) (v := 0) dL_holds_453 (by decide) ?_
                                exact r_mask [true, true, true, true, true, true, true, true, true, true, true, false, true, false, false, false, false, false, false, false] rfl (hJ262 _ _ h _ hI)
                              · exact r_mask [true, true, true, true, true, true, true, true, true, true, true, false, true, false, true, false, true, false, false, false] rfl (hJ302 _ h _ hI)
                      · refine r_ifC_le (pc := 290) (tgt := 297) dL_holds_290 (by decide) (fun g299 => ?_) (fun g299 => ?_)
                        · refine r_iconst (pc := 297) (v := 0) dL_holds_297 (by decide) ?_
                          exact r_mask [true, true, true, true, true, true, true, true, true, true, true, false, true, false, true, false, true, false, false, false] rfl (hJ298 _ (by rw [if_pos g299]) _ hI)
                        · refine r_iconst (pc := 293) (v := 1) dL_holds_293 (by decide) ?_
                          refine r_goto (pc := 294) (tgt := 298) dL_holds_294 (by decide) ?_
                          exact r_mask [true, true, true, true, true, true, true, true, true, true, true, false, true, false, true, false, true, false, false, false] rfl (hJ298 _ (by rw [if_neg g299]) _ hI)
                    · refine r_icmpC_ne (pc := 280) (tgt := 287) dL_holds_280 (by decide) (fun g296 => ?_) (fun g296 => ?_)
                      · refine r_iconst (pc := 287) (v := 0) dL_holds_287 (by decide) ?_
                        exact r_mask [true, true, true, true, true, true, true, true, true, true, true, false, true, false, true, false, true, false, false, false] rfl (hJ295 _ (by rw [if_neg g296]) _ hI)
                      · refine r_iconst (pc := 283) (v := 1) dL_holds_283 (by decide) ?_
                        refine r_goto (pc := 284) (tgt := 288) dL_holds_284 (by decide) ?_
                        exact r_mask [true, true, true, true, true, true, true, true, true, true, true, false, true, false, true, false, true, false, false, false] rfl (hJ295 _ (by rw [if_pos g296]) _ hI)
                  refine r_icmp_eq (pc := 258) (tgt := 277) dL_holds_258 (by decide) h (fun h => ?_) (fun h => ?_)
                  · exact r_mask [true, true, true, true, true, true, true, true, true, true, true, false, true, false, true, true, true, false, false, false] rfl (hJ293 _ h _ hI)
                  · refine r_iload (pc := 261) dL_holds_261 rfl ?_
                    refine r_iload_n (pc := 263) dL_holds_263 rfl rfl ?_
                    refine r_icmp_lt (pc := 264) (tgt := 453) dL_holds_264 (by decide) h (fun h => ?_) (fun h => ?_)
                    · refine r_iconst (pc := 453) (v := 0) dL_holds_453 (by decide) ?_
                      exact r_mask [true, true, true, true, true, true, true, true, true, true, true, false, true, false, false, false, false, false, false, false] rfl (hJ262 _ _ h _ hI)
                    · refine r_iload (pc := 267) dL_holds_267 rfl ?_
                      refine r_iload_n (pc := 269) dL_holds_269 rfl rfl ?_
                      refine r_sipush (pc := 270) (v := 200) dL_holds_270 (by decide) ?_
                      refine r_iadd (pc := 273) dL_holds_273 ?_
                      refine r_icmp_gt (pc := 274) (tgt := 453) dL_holds_274 (by decide) h (fun h => ?_) (fun h => ?_)
                      · refine r_iconst (pc := 453) (v := 0) dL_holds_453 (by decide) ?_
                        exact r_mask [true, true, true, true, true, true, true, true, true, true, true, false, true, false, false, false, false, false, false, false] rfl (hJ262 _ _ h _ hI)
                      · exact r_mask [true, true, true, true, true, true, true, true, true, true, true, false, true, false, true, true, true, false, false, false] rfl (hJ293 _ h _ hI)
            have L341 : ∀ (n339 : Nat) (v342 : Int32) (v343 : Int32) (m344 : gS × Nat), fL_holds_L72 a1 p2 x2 x5 v208 v209 v210 v211 v212 v213 v214 v216 (fL_holds_L55 a1 p2 x2 x5 k19 n205) k220 n339 v342 v343 m344 = some o → AL gI2 Y cL_holds RL 72 [some (.ref a1), some (.int p2), some (.int x2), some (.int x5), some (.int v208), some (.int v209), some (.int v210), some (.int v211), some (.int v212), some (.int v213), some (.int v214), none, some (.int v216), some (.int v342), some (.int v343), none, none, none, none, none] [] m344 := by
              intro n339
              induction n339 with
              | zero =>
                intro v342 v343 m344 h
                exact absurd h (by simp [fL_holds_L72])
              | succ n339 ih340 =>
                intro v342 v343 m344 h
                rw [fL_holds_L72] at h
                intro _ hI
                refine r_iload (pc := 72) dL_holds_72 rfl ?_
                refine r_bipush (pc := 74) (v := 7) dL_holds_74 (by decide) ?_
                refine r_icmp_ge (pc := 76) (tgt := 100) dL_holds_76 (by decide) h (fun h => ?_) (fun h => ?_)
                · exact r_mask [true, true, true, true, true, true, true, true, true, true, true, false, true, true, false, false, false, false, false, false] rfl (hJ221 _ _ h _ hI)
                · refine r_iload (pc := 79) dL_holds_79 rfl ?_
                  refine r_aload_n (pc := 81) dL_holds_81 rfl rfl ?_
                  refine r_iconst (pc := 82) (v := 4) dL_holds_82 (by decide) ?_
                  refine r_iload (pc := 83) dL_holds_83 rfl ?_
                  refine r_iload (pc := 85) dL_holds_85 rfl ?_
                  refine r_iconst (pc := 87) (v := 0) dL_holds_87 (by decide) ?_
                  obtain ⟨s345, x346, q347, eq347, kq347, h⟩ := gCN_some h
                  refine r_callA (pc := 88) [.ref _, .int _, .int _, .int _, .int _] (taL_call _ hlt _ _ hF _ _ _ _ _ _ _ q347 h1) cd_L_call wL_190 nm_L_call rfl (by rw [hRm]; decide) rfl (Nat.le_of_ble_eq_true rfl) dL_holds_88 hB eq347 kq347 hI (fun _ hI => ?_)
                  refine r_iadd (pc := 91) dL_holds_91 ?_
                  refine r_istoreL (pc := 92) dL_holds_92 (by rw [gYn_nL, hnL]; decide) h (fun x348 h => ?_)
                  refine r_iinc (pc := 94) (d := 1) dL_holds_94 rfl (by decide) (by rw [gYn_nL, hnL]; decide) h (fun x349 h => ?_)
                  refine r_goto (pc := 97) (tgt := 72) dL_holds_97 (by decide) ?_
                  exact r_mask [true, true, true, true, true, true, true, true, true, true, true, false, true, true, true, false, false, false, false, false] rfl (ih340 _ _ _ h _ hI)
            exact r_mask [true, true, true, true, true, true, true, true, true, true, true, false, true, true, true, false, false, false, false, false] rfl (L341 _ _ _ _ h _ hI)
    exact r_mask [true, true, true, true, true, true, true, true, true, true, true, true, true, false, false, false, false, false, false, false] rfl (L207 _ _ _ _ _ _ _ _ _ _ _ h _ hI)
  · refine r_icmpC_gt (pc := 42) (tgt := 49) dL_holds_42 (by decide) (fun g9 => ?_) (fun g9 => ?_)
    · refine r_iconst (pc := 49) (v := 0) dL_holds_49 (by decide) ?_
      exact r_mask [true, true, true, true, true, true, true, true, true, true, true, false, false, false, false, false, false, false, false, false] rfl (hJ8 _ (by rw [if_pos g9]) _ hI)
    · refine r_iconst (pc := 45) (v := 1) dL_holds_45 (by decide) ?_
      refine r_goto (pc := 46) (tgt := 50) dL_holds_46 (by decide) ?_
      exact r_mask [true, true, true, true, true, true, true, true, true, true, true, false, false, false, false, false, false, false, false, false] rfl (hJ8 _ (by rw [if_neg g9]) _ hI)
set_option maxHeartbeats 8000000 in
set_option maxRecDepth 100000 in
theorem taL_goesOn (l : Launch) (hlt : l.stackTraces = false) (G : gX) (u : gU) (hF : gFull u) (a1 : Nat) (a2 : Nat) (p3 : Int32) (t : gS) (o : gS × Int32) (h : aL_goesOn a1 a2 p3 t = some o) (h1 : gIn u a1 4 0) (h2 : gIn u a2 4 0) : gMetA gI2 l G u yL_goesOn (.code yL_goesOn cL_goesOn 20 (some .boolean)) 12 241 250 [.ref a1, .ref a2, .int p3] t o.1 (some (.int o.2)) := by
  refine gMetA_of (own := RL) (k := 17) (by decide) rfl (Nat.le_of_ble_eq_true rfl) [some (.ref a1), some (.ref a2), some (.int p3), none, none, none, none, none, none, none, none, none, none, none, none, none, none, none, none, none] rfl (fun Y hG hu hnL hLn hRm hB he => ?_)
  subst hG hu hLn
  unfold aL_goesOn aL_goesOnB at h
  generalize ((t, 0) : gS × Nat) = s at h ⊢
  intro _ hI
  refine r_iload_n (pc := 0) dL_goesOn_0 rfl rfl ?_
  refine r_aload_n (pc := 1) dL_goesOn_1 rfl rfl ?_
  refine r_iconst (pc := 2) (v := 2) dL_goesOn_2 (by decide) ?_
  refine r_iconst (pc := 3) (v := 0) dL_goesOn_3 (by decide) ?_
  refine r_iconst (pc := 4) (v := 0) dL_goesOn_4 (by decide) ?_
  refine r_iconst (pc := 5) (v := 0) dL_goesOn_5 (by decide) ?_
  obtain ⟨s1, x2, q3, eq3, kq3, h⟩ := gCN_some h
  refine r_callA (pc := 6) [.ref _, .int _, .int _, .int _, .int _] (taL_call _ hlt _ _ hF _ _ _ _ _ _ _ q3 h1) cd_L_call wL_190 nm_L_call rfl (by rw [hRm]; decide) rfl (Nat.le_of_ble_eq_true rfl) dL_goesOn_6 hB eq3 kq3 hI (fun _ hI => ?_)
  refine r_irem (pc := 9) dL_goesOn_9 h (fun h => ?_)
  refine r_istore_nL (pc := 10) dL_goesOn_10 rfl (by rw [gYn_nL, hnL]; decide) h (fun x4 h => ?_)
  refine r_aload_n (pc := 11) dL_goesOn_11 rfl rfl ?_
  refine r_iconst (pc := 12) (v := 3) dL_goesOn_12 (by decide) ?_
  refine r_iload_n (pc := 13) dL_goesOn_13 rfl rfl ?_
  refine r_bipush (pc := 14) (v := 9) dL_goesOn_14 (by decide) ?_
  refine r_iconst (pc := 16) (v := 0) dL_goesOn_16 (by decide) ?_
  obtain ⟨s5, x6, q7, eq7, kq7, h⟩ := gCN_some h
  refine r_callA (pc := 17) [.ref _, .int _, .int _, .int _, .int _] (taL_call _ hlt _ _ hF _ _ _ _ _ _ _ q7 h1) cd_L_call wL_190 nm_L_call rfl (by rw [hRm]; decide) rfl (Nat.le_of_ble_eq_true rfl) dL_goesOn_17 hB eq7 kq7 hI (fun _ hI => ?_)
  refine r_istore (pc := 20) dL_goesOn_20 (by rw [gYn_nL, hnL]; decide) rfl ?_
  refine r_aload_n (pc := 22) dL_goesOn_22 rfl rfl ?_
  refine r_iconst (pc := 23) (v := 2) dL_goesOn_23 (by decide) ?_
  refine r_bipush (pc := 24) (v := 12) dL_goesOn_24 (by decide) ?_
  refine r_iconst (pc := 26) (v := 0) dL_goesOn_26 (by decide) ?_
  refine r_iconst (pc := 27) (v := 0) dL_goesOn_27 (by decide) ?_
  obtain ⟨s8, x9, q10, eq10, kq10, h⟩ := gCN_some h
  refine r_callA (pc := 28) [.ref _, .int _, .int _, .int _, .int _] (taL_call _ hlt _ _ hF _ _ _ _ _ _ _ q10 h1) cd_L_call wL_190 nm_L_call rfl (by rw [hRm]; decide) rfl (Nat.le_of_ble_eq_true rfl) dL_goesOn_28 hB eq10 kq10 hI (fun _ hI => ?_)
  refine r_istore (pc := 31) dL_goesOn_31 (by rw [gYn_nL, hnL]; decide) rfl ?_
  refine r_aload_n (pc := 33) dL_goesOn_33 rfl rfl ?_
  refine r_bipush (pc := 34) (v := 17) dL_goesOn_34 (by decide) ?_
  refine r_iload_n (pc := 36) dL_goesOn_36 rfl rfl ?_
  refine r_iconst (pc := 37) (v := 0) dL_goesOn_37 (by decide) ?_
  refine r_iconst (pc := 38) (v := 0) dL_goesOn_38 (by decide) ?_
  obtain ⟨s11, x12, q13, eq13, kq13, h⟩ := gCN_some h
  refine r_callA (pc := 39) [.ref _, .int _, .int _, .int _, .int _] (taL_call _ hlt _ _ hF _ _ _ _ _ _ _ q13 h1) cd_L_call wL_190 nm_L_call rfl (by rw [hRm]; decide) rfl (Nat.le_of_ble_eq_true rfl) dL_goesOn_39 hB eq13 kq13 hI (fun _ hI => ?_)
  refine r_istore (pc := 42) dL_goesOn_42 (by rw [gYn_nL, hnL]; decide) rfl ?_
  refine r_aload_n (pc := 44) dL_goesOn_44 rfl rfl ?_
  refine r_iconst (pc := 45) (v := 3) dL_goesOn_45 (by decide) ?_
  refine r_iload_n (pc := 46) dL_goesOn_46 rfl rfl ?_
  refine r_iconst (pc := 47) (v := 3) dL_goesOn_47 (by decide) ?_
  refine r_iconst (pc := 48) (v := 0) dL_goesOn_48 (by decide) ?_
  obtain ⟨s14, x15, q16, eq16, kq16, h⟩ := gCN_some h
  refine r_callA (pc := 49) [.ref _, .int _, .int _, .int _, .int _] (taL_call _ hlt _ _ hF _ _ _ _ _ _ _ q16 h1) cd_L_call wL_190 nm_L_call rfl (by rw [hRm]; decide) rfl (Nat.le_of_ble_eq_true rfl) dL_goesOn_49 hB eq16 kq16 hI (fun _ hI => ?_)
  refine r_istore (pc := 52) dL_goesOn_52 (by rw [gYn_nL, hnL]; decide) rfl ?_
  refine r_aload_n (pc := 54) dL_goesOn_54 rfl rfl ?_
  refine r_iconst (pc := 55) (v := 3) dL_goesOn_55 (by decide) ?_
  refine r_iload_n (pc := 56) dL_goesOn_56 rfl rfl ?_
  refine r_iconst (pc := 57) (v := 2) dL_goesOn_57 (by decide) ?_
  refine r_iconst (pc := 58) (v := 0) dL_goesOn_58 (by decide) ?_
  obtain ⟨s17, x18, q19, eq19, kq19, h⟩ := gCN_some h
  refine r_callA (pc := 59) [.ref _, .int _, .int _, .int _, .int _] (taL_call _ hlt _ _ hF _ _ _ _ _ _ _ q19 h1) cd_L_call wL_190 nm_L_call rfl (by rw [hRm]; decide) rfl (Nat.le_of_ble_eq_true rfl) dL_goesOn_59 hB eq19 kq19 hI (fun _ hI => ?_)
  refine r_istore (pc := 62) dL_goesOn_62 (by rw [gYn_nL, hnL]; decide) rfl ?_
  refine r_aload_n (pc := 64) dL_goesOn_64 rfl rfl ?_
  refine r_iconst (pc := 65) (v := 2) dL_goesOn_65 (by decide) ?_
  refine r_bipush (pc := 66) (v := 8) dL_goesOn_66 (by decide) ?_
  refine r_iconst (pc := 68) (v := 0) dL_goesOn_68 (by decide) ?_
  refine r_iconst (pc := 69) (v := 0) dL_goesOn_69 (by decide) ?_
  obtain ⟨s20, x21, q22, eq22, kq22, h⟩ := gCN_some h
  refine r_callA (pc := 70) [.ref _, .int _, .int _, .int _, .int _] (taL_call _ hlt _ _ hF _ _ _ _ _ _ _ q22 h1) cd_L_call wL_190 nm_L_call rfl (by rw [hRm]; decide) rfl (Nat.le_of_ble_eq_true rfl) dL_goesOn_70 hB eq22 kq22 hI (fun _ hI => ?_)
  refine r_istore (pc := 73) dL_goesOn_73 (by rw [gYn_nL, hnL]; decide) rfl ?_
  refine r_aload_n (pc := 75) dL_goesOn_75 rfl rfl ?_
  refine r_iconst (pc := 76) (v := 2) dL_goesOn_76 (by decide) ?_
  refine r_bipush (pc := 77) (v := 9) dL_goesOn_77 (by decide) ?_
  refine r_iconst (pc := 79) (v := 0) dL_goesOn_79 (by decide) ?_
  refine r_iconst (pc := 80) (v := 0) dL_goesOn_80 (by decide) ?_
  obtain ⟨s23, x24, q25, eq25, kq25, h⟩ := gCN_some h
  refine r_callA (pc := 81) [.ref _, .int _, .int _, .int _, .int _] (taL_call _ hlt _ _ hF _ _ _ _ _ _ _ q25 h1) cd_L_call wL_190 nm_L_call rfl (by rw [hRm]; decide) rfl (Nat.le_of_ble_eq_true rfl) dL_goesOn_81 hB eq25 kq25 hI (fun _ hI => ?_)
  refine r_istore (pc := 84) dL_goesOn_84 (by rw [gYn_nL, hnL]; decide) rfl ?_
  refine r_aload_n (pc := 86) dL_goesOn_86 rfl rfl ?_
  refine r_iconst (pc := 87) (v := 2) dL_goesOn_87 (by decide) ?_
  refine r_bipush (pc := 88) (v := 7) dL_goesOn_88 (by decide) ?_
  refine r_iconst (pc := 90) (v := 0) dL_goesOn_90 (by decide) ?_
  refine r_iconst (pc := 91) (v := 0) dL_goesOn_91 (by decide) ?_
  obtain ⟨s26, x27, q28, eq28, kq28, h⟩ := gCN_some h
  refine r_callA (pc := 92) [.ref _, .int _, .int _, .int _, .int _] (taL_call _ hlt _ _ hF _ _ _ _ _ _ _ q28 h1) cd_L_call wL_190 nm_L_call rfl (by rw [hRm]; decide) rfl (Nat.le_of_ble_eq_true rfl) dL_goesOn_92 hB eq28 kq28 hI (fun _ hI => ?_)
  refine r_istore (pc := 95) dL_goesOn_95 (by rw [gYn_nL, hnL]; decide) rfl ?_
  refine r_aload_n (pc := 97) dL_goesOn_97 rfl rfl ?_
  refine r_bipush (pc := 98) (v := 8) dL_goesOn_98 (by decide) ?_
  refine r_iconst (pc := 100) (v := 4) dL_goesOn_100 (by decide) ?_
  refine r_iconst (pc := 101) (v := 0) dL_goesOn_101 (by decide) ?_
  refine r_iconst (pc := 102) (v := 0) dL_goesOn_102 (by decide) ?_
  obtain ⟨s29, x30, q31, eq31, kq31, h⟩ := gCN_some h
  refine r_callA (pc := 103) [.ref _, .int _, .int _, .int _, .int _] (taL_call _ hlt _ _ hF _ _ _ _ _ _ _ q31 h1) cd_L_call wL_190 nm_L_call rfl (by rw [hRm]; decide) rfl (Nat.le_of_ble_eq_true rfl) dL_goesOn_103 hB eq31 kq31 hI (fun _ hI => ?_)
  refine r_istore (pc := 106) dL_goesOn_106 (by rw [gYn_nL, hnL]; decide) rfl ?_
  refine r_aload_n (pc := 108) dL_goesOn_108 rfl rfl ?_
  refine r_bipush (pc := 109) (v := 18) dL_goesOn_109 (by decide) ?_
  refine r_iload_n (pc := 111) dL_goesOn_111 rfl rfl ?_
  refine r_iconst (pc := 112) (v := 1) dL_goesOn_112 (by decide) ?_
  refine r_iconst (pc := 113) (v := 0) dL_goesOn_113 (by decide) ?_
  obtain ⟨s32, x33, q34, eq34, kq34, h⟩ := gCN_some h
  refine r_callA (pc := 114) [.ref _, .int _, .int _, .int _, .int _] (taL_call _ hlt _ _ hF _ _ _ _ _ _ _ q34 h1) cd_L_call wL_190 nm_L_call rfl (by rw [hRm]; decide) rfl (Nat.le_of_ble_eq_true rfl) dL_goesOn_114 hB eq34 kq34 hI (fun _ hI => ?_)
  refine r_istore (pc := 117) dL_goesOn_117 (by rw [gYn_nL, hnL]; decide) rfl ?_
  refine r_aload_n (pc := 119) dL_goesOn_119 rfl rfl ?_
  refine r_aload_n (pc := 120) dL_goesOn_120 rfl rfl ?_
  refine r_iconst (pc := 121) (v := 1) dL_goesOn_121 (by decide) ?_
  obtain ⟨s35, x36, q37, eq37, kq37, h⟩ := gCN_some h
  refine r_callA (pc := 122) [.ref _, .ref _, .int _] (taL_waits _ hlt _ _ hF _ _ _ _ _ q37 h1 h2) cd_L_waits wL_242 nm_L_waits rfl (by rw [hRm]; decide) rfl (Nat.le_of_ble_eq_true rfl) dL_goesOn_122 hB eq37 kq37 hI (fun _ hI => ?_)
  refine r_istore (pc := 125) dL_goesOn_125 (by rw [gYn_nL, hnL]; decide) rfl ?_
  refine r_aload_n (pc := 127) dL_goesOn_127 rfl rfl ?_
  refine r_iconst (pc := 128) (v := 3) dL_goesOn_128 (by decide) ?_
  refine r_iload_n (pc := 129) dL_goesOn_129 rfl rfl ?_
  refine r_iconst (pc := 130) (v := 3) dL_goesOn_130 (by decide) ?_
  refine r_iconst (pc := 131) (v := 0) dL_goesOn_131 (by decide) ?_
  obtain ⟨s38, x39, q40, eq40, kq40, h⟩ := gCN_some h
  refine r_callA (pc := 132) [.ref _, .int _, .int _, .int _, .int _] (taL_call _ hlt _ _ hF _ _ _ _ _ _ _ q40 h1) cd_L_call wL_190 nm_L_call rfl (by rw [hRm]; decide) rfl (Nat.le_of_ble_eq_true rfl) dL_goesOn_132 hB eq40 kq40 hI (fun _ hI => ?_)
  refine r_iload (pc := 135) dL_goesOn_135 rfl ?_
  refine r_isub (pc := 137) dL_goesOn_137 ?_
  refine r_istoreL (pc := 138) dL_goesOn_138 (by rw [gYn_nL, hnL]; decide) h (fun x41 h => ?_)
  refine r_iload (pc := 140) dL_goesOn_140 rfl ?_
  refine r_jnK h (fun (k44 : Int32 → gS × Nat → Option (gS × Int32)) => ∀ (x42 : Int32) (s43 : gS × Nat), k44 x42 s43 = some o → AL gI2 Y cL_goesOn RL 295 [some (.ref a1), some (.ref a2), some (.int p3), some (.int x4), none, none, none, none, some (.int x18), none, none, none, none, none, none, none, none, none, none, none] [.int x42] s43) (fun x42 s43 h => ?_) (fun k44 hJ45 h => ?_)
  · intro _ hI
    refine r_istore (pc := 295) dL_goesOn_295 (by rw [gYn_nL, hnL]; decide) rfl ?_
    refine r_aload_n (pc := 297) dL_goesOn_297 rfl rfl ?_
    refine r_bipush (pc := 298) (v := 19) dL_goesOn_298 (by decide) ?_
    refine r_iload_n (pc := 300) dL_goesOn_300 rfl rfl ?_
    refine r_iconst (pc := 301) (v := 0) dL_goesOn_301 (by decide) ?_
    refine r_iconst (pc := 302) (v := 0) dL_goesOn_302 (by decide) ?_
    obtain ⟨s46, x47, q48, eq48, kq48, h⟩ := gCN_some h
    refine r_callA (pc := 303) [.ref _, .int _, .int _, .int _, .int _] (taL_call _ hlt _ _ hF _ _ _ _ _ _ _ q48 h1) cd_L_call wL_190 nm_L_call rfl (by rw [hRm]; decide) rfl (Nat.le_of_ble_eq_true rfl) dL_goesOn_303 hB eq48 kq48 hI (fun _ hI => ?_)
    refine r_istore (pc := 306) dL_goesOn_306 (by rw [gYn_nL, hnL]; decide) rfl ?_
    refine r_iload (pc := 308) dL_goesOn_308 rfl ?_
    refine r_iconst (pc := 310) (v := (-1)) dL_goesOn_310 (by decide) ?_
    refine r_jn1 h (fun x49 => AL gI2 Y cL_goesOn RL 321 [some (.ref a1), some (.ref a2), some (.int p3), some (.int x4), none, none, none, none, some (.int x18), none, none, none, none, none, some (.int x42), none, some (.int x47), none, none, none] [.int x49] s46) (fun x49 h => ?_) (fun hJ50 => ?_)
    · intro _ hI
      refine r_istore (pc := 321) dL_goesOn_321 (by rw [gYn_nL, hnL]; decide) rfl ?_
      refine r_iload (pc := 323) dL_goesOn_323 rfl ?_
      refine r_jnK h (fun (k54 : Int32 → gS × Nat → Option (gS × Int32)) => ∀ (x52 : Int32) (s53 : gS × Nat), k54 x52 s53 = some o → AL gI2 Y cL_goesOn RL 383 [some (.ref a1), some (.ref a2), some (.int p3), some (.int x4), none, none, none, none, some (.int x18), none, none, none, none, none, none, none, none, some (.int x49), none, none] [.int x52] s53) (fun x52 s53 h => ?_) (fun k54 hJ55 h => ?_)
      · intro _ hI
        refine r_istore (pc := 383) dL_goesOn_383 (by rw [gYn_nL, hnL]; decide) rfl ?_
        refine r_iload (pc := 385) dL_goesOn_385 rfl ?_
        refine r_iconst (pc := 387) (v := 1) dL_goesOn_387 (by decide) ?_
        refine r_jnK h (fun (k58 : Int32 → gS × Nat → Option (gS × Int32)) => ∀ (x56 : Int32) (s57 : gS × Nat), k58 x56 s57 = some o → AL gI2 Y cL_goesOn RL 438 [some (.ref a1), some (.ref a2), some (.int p3), some (.int x4), none, none, none, none, some (.int x18), none, none, none, none, none, some (.int x56), none, none, none, none, none] [] s57) (fun x56 s57 h => ?_) (fun k58 hJ59 h => ?_)
        · intro _ hI
          refine r_iload_n (pc := 438) dL_goesOn_438 rfl rfl ?_
          refine r_bipush (pc := 439) (v := 10) dL_goesOn_439 (by decide) ?_
          refine r_idivc (pc := 441) dL_goesOn_441 (by decide) ?_
          refine r_bipush (pc := 442) (v := 60) dL_goesOn_442 (by decide) ?_
          refine r_iremc (pc := 444) dL_goesOn_444 (by decide) ?_
          refine r_istoreL (pc := 445) dL_goesOn_445 (by rw [gYn_nL, hnL]; decide) h (fun x60 h => ?_)
          refine r_aload_n (pc := 447) dL_goesOn_447 rfl rfl ?_
          refine r_bipush (pc := 448) (v := 18) dL_goesOn_448 (by decide) ?_
          refine r_iload_n (pc := 450) dL_goesOn_450 rfl rfl ?_
          refine r_iload (pc := 451) dL_goesOn_451 rfl ?_
          refine r_iconst (pc := 453) (v := 0) dL_goesOn_453 (by decide) ?_
          obtain ⟨s61, x62, q63, eq63, kq63, h⟩ := gCN_some h
          refine r_callA (pc := 454) [.ref _, .int _, .int _, .int _, .int _] (taL_call _ hlt _ _ hF _ _ _ _ _ _ _ q63 h1) cd_L_call wL_190 nm_L_call rfl (by rw [hRm]; decide) rfl (Nat.le_of_ble_eq_true rfl) dL_goesOn_454 hB eq63 kq63 hI (fun _ hI => ?_)
          refine r_istore (pc := 457) dL_goesOn_457 (by rw [gYn_nL, hnL]; decide) rfl ?_
          refine r_iload (pc := 459) dL_goesOn_459 rfl ?_
          refine r_if_eq (pc := 461) (tgt := 514) dL_goesOn_461 (by decide) h (fun h => ?_) (fun h => ?_)
          · refine r_iconst (pc := 514) (v := 0) dL_goesOn_514 (by decide) ?_
            exact r_zretA dL_goesOn_515 rfl h he hI
          · refine r_aload_n (pc := 464) dL_goesOn_464 rfl rfl ?_
            refine r_aload_n (pc := 465) dL_goesOn_465 rfl rfl ?_
            refine r_iload (pc := 466) dL_goesOn_466 rfl ?_
            obtain ⟨s64, x65, q66, eq66, kq66, h⟩ := gCN_some h
            refine r_callA (pc := 468) [.ref _, .ref _, .int _] (taL_waits _ hlt _ _ hF _ _ _ _ _ q66 h1 h2) cd_L_waits wL_242 nm_L_waits rfl (by rw [hRm]; decide) rfl (Nat.le_of_ble_eq_true rfl) dL_goesOn_468 hB eq66 kq66 hI (fun _ hI => ?_)
            refine r_if_eq (pc := 471) (tgt := 514) dL_goesOn_471 (by decide) h (fun h => ?_) (fun h => ?_)
            · refine r_iconst (pc := 514) (v := 0) dL_goesOn_514 (by decide) ?_
              exact r_zretA dL_goesOn_515 rfl h he hI
            · refine r_aload_n (pc := 474) dL_goesOn_474 rfl rfl ?_
              refine r_iconst (pc := 475) (v := 3) dL_goesOn_475 (by decide) ?_
              refine r_iload_n (pc := 476) dL_goesOn_476 rfl rfl ?_
              refine r_iconst (pc := 477) (v := 2) dL_goesOn_477 (by decide) ?_
              refine r_iconst (pc := 478) (v := 0) dL_goesOn_478 (by decide) ?_
              obtain ⟨s67, x68, q69, eq69, kq69, h⟩ := gCN_some h
              refine r_callA (pc := 479) [.ref _, .int _, .int _, .int _, .int _] (taL_call _ hlt _ _ hF _ _ _ _ _ _ _ q69 h1) cd_L_call wL_190 nm_L_call rfl (by rw [hRm]; decide) rfl (Nat.le_of_ble_eq_true rfl) dL_goesOn_479 hB eq69 kq69 hI (fun _ hI => ?_)
              refine r_iload (pc := 482) dL_goesOn_482 rfl ?_
              refine r_icmp_ne (pc := 484) (tgt := 514) dL_goesOn_484 (by decide) h (fun h => ?_) (fun h => ?_)
              · refine r_iconst (pc := 514) (v := 0) dL_goesOn_514 (by decide) ?_
                exact r_zretA dL_goesOn_515 rfl h he hI
              · refine r_aload_n (pc := 487) dL_goesOn_487 rfl rfl ?_
                refine r_aload_n (pc := 488) dL_goesOn_488 rfl rfl ?_
                refine r_iload (pc := 489) dL_goesOn_489 rfl ?_
                obtain ⟨s70, x71, q72, eq72, kq72, h⟩ := gCN_some h
                refine r_callA (pc := 491) [.ref _, .ref _, .int _] (taL_undoes _ hlt _ _ hF _ _ _ _ _ q72 h1 h2) cd_L_undoes wL_245 nm_L_undoes rfl (by rw [hRm]; decide) rfl (Nat.le_of_ble_eq_true rfl) dL_goesOn_491 hB eq72 kq72 hI (fun _ hI => ?_)
                refine r_if_eq (pc := 494) (tgt := 514) dL_goesOn_494 (by decide) h (fun h => ?_) (fun h => ?_)
                · refine r_iconst (pc := 514) (v := 0) dL_goesOn_514 (by decide) ?_
                  exact r_zretA dL_goesOn_515 rfl h he hI
                · refine r_aload_n (pc := 497) dL_goesOn_497 rfl rfl ?_
                  refine r_iconst (pc := 498) (v := 3) dL_goesOn_498 (by decide) ?_
                  refine r_iload_n (pc := 499) dL_goesOn_499 rfl rfl ?_
                  refine r_iconst (pc := 500) (v := 2) dL_goesOn_500 (by decide) ?_
                  refine r_iconst (pc := 501) (v := 0) dL_goesOn_501 (by decide) ?_
                  obtain ⟨s73, x74, q75, eq75, kq75, h⟩ := gCN_some h
                  refine r_callA (pc := 502) [.ref _, .int _, .int _, .int _, .int _] (taL_call _ hlt _ _ hF _ _ _ _ _ _ _ q75 h1) cd_L_call wL_190 nm_L_call rfl (by rw [hRm]; decide) rfl (Nat.le_of_ble_eq_true rfl) dL_goesOn_502 hB eq75 kq75 hI (fun _ hI => ?_)
                  refine r_iload (pc := 505) dL_goesOn_505 rfl ?_
                  refine r_icmp_ne (pc := 507) (tgt := 514) dL_goesOn_507 (by decide) h (fun h => ?_) (fun h => ?_)
                  · refine r_iconst (pc := 514) (v := 0) dL_goesOn_514 (by decide) ?_
                    exact r_zretA dL_goesOn_515 rfl h he hI
                  · refine r_iconst (pc := 510) (v := 1) dL_goesOn_510 (by decide) ?_
                    refine r_goto (pc := 511) (tgt := 515) dL_goesOn_511 (by decide) ?_
                    exact r_zretA dL_goesOn_515 rfl h he hI
        refine r_icmp_le (pc := 388) (tgt := 438) dL_goesOn_388 (by decide) h (fun h => ?_) (fun h => ?_)
        · exact r_mask [true, true, true, true, false, false, false, false, true, false, false, false, false, false, true, false, false, false, false, false] rfl (hJ59 _ _ h _ hI)
        · refine r_iload (pc := 391) dL_goesOn_391 rfl ?_
          refine r_if_eq (pc := 393) (tgt := 438) dL_goesOn_393 (by decide) h (fun h => ?_) (fun h => ?_)
          · exact r_mask [true, true, true, true, false, false, false, false, true, false, false, false, false, false, true, false, false, false, false, false] rfl (hJ59 _ _ h _ hI)
          · refine r_aload_n (pc := 396) dL_goesOn_396 rfl rfl ?_
            refine r_aload_n (pc := 397) dL_goesOn_397 rfl rfl ?_
            refine r_iload (pc := 398) dL_goesOn_398 rfl ?_
            refine r_iconst (pc := 400) (v := 1) dL_goesOn_400 (by decide) ?_
            refine r_isub (pc := 401) dL_goesOn_401 ?_
            obtain ⟨s76, x77, q78, eq78, kq78, h⟩ := gCN_some h
            refine r_callA (pc := 402) [.ref _, .ref _, .int _] (taL_waits _ hlt _ _ hF _ _ _ _ _ q78 h1 h2) cd_L_waits wL_242 nm_L_waits rfl (by rw [hRm]; decide) rfl (Nat.le_of_ble_eq_true rfl) dL_goesOn_402 hB eq78 kq78 hI (fun _ hI => ?_)
            refine r_if_eq (pc := 405) (tgt := 435) dL_goesOn_405 (by decide) h (fun h => ?_) (fun h => ?_)
            · refine r_iconst (pc := 435) (v := 0) dL_goesOn_435 (by decide) ?_
              refine r_istore (pc := 436) dL_goesOn_436 (by rw [gYn_nL, hnL]; decide) rfl ?_
              exact r_mask [true, true, true, true, false, false, false, false, true, false, false, false, false, false, true, false, false, false, false, false] rfl (hJ59 _ _ h _ hI)
            · refine r_aload_n (pc := 408) dL_goesOn_408 rfl rfl ?_
              refine r_iconst (pc := 409) (v := 3) dL_goesOn_409 (by decide) ?_
              refine r_iload_n (pc := 410) dL_goesOn_410 rfl rfl ?_
              refine r_iconst (pc := 411) (v := 2) dL_goesOn_411 (by decide) ?_
              refine r_iconst (pc := 412) (v := 0) dL_goesOn_412 (by decide) ?_
              obtain ⟨s79, x80, q81, eq81, kq81, h⟩ := gCN_some h
              refine r_callA (pc := 413) [.ref _, .int _, .int _, .int _, .int _] (taL_call _ hlt _ _ hF _ _ _ _ _ _ _ q81 h1) cd_L_call wL_190 nm_L_call rfl (by rw [hRm]; decide) rfl (Nat.le_of_ble_eq_true rfl) dL_goesOn_413 hB eq81 kq81 hI (fun _ hI => ?_)
              refine r_if_le (pc := 416) (tgt := 435) dL_goesOn_416 (by decide) h (fun h => ?_) (fun h => ?_)
              · refine r_iconst (pc := 435) (v := 0) dL_goesOn_435 (by decide) ?_
                refine r_istore (pc := 436) dL_goesOn_436 (by rw [gYn_nL, hnL]; decide) rfl ?_
                exact r_mask [true, true, true, true, false, false, false, false, true, false, false, false, false, false, true, false, false, false, false, false] rfl (hJ59 _ _ h _ hI)
              · refine r_aload_n (pc := 419) dL_goesOn_419 rfl rfl ?_
                refine r_aload_n (pc := 420) dL_goesOn_420 rfl rfl ?_
                refine r_iload (pc := 421) dL_goesOn_421 rfl ?_
                refine r_iconst (pc := 423) (v := 1) dL_goesOn_423 (by decide) ?_
                refine r_isub (pc := 424) dL_goesOn_424 ?_
                obtain ⟨s82, x83, q84, eq84, kq84, h⟩ := gCN_some h
                refine r_callA (pc := 425) [.ref _, .ref _, .int _] (taL_undoes _ hlt _ _ hF _ _ _ _ _ q84 h1 h2) cd_L_undoes wL_245 nm_L_undoes rfl (by rw [hRm]; decide) rfl (Nat.le_of_ble_eq_true rfl) dL_goesOn_425 hB eq84 kq84 hI (fun _ hI => ?_)
                refine r_jn1 h (fun x85 => AL gI2 Y cL_goesOn RL 436 [some (.ref a1), some (.ref a2), some (.int p3), some (.int x4), none, none, none, none, some (.int x18), none, none, none, none, none, none, none, none, none, none, none] [.int x85] s82) (fun x85 h => ?_) (fun hJ86 => ?_)
                · intro _ hI
                  refine r_istore (pc := 436) dL_goesOn_436 (by rw [gYn_nL, hnL]; decide) rfl ?_
                  exact r_mask [true, true, true, true, false, false, false, false, true, false, false, false, false, false, true, false, false, false, false, false] rfl (hJ59 _ _ h _ hI)
                · refine r_ifC_eq (pc := 428) (tgt := 435) dL_goesOn_428 (by decide) (fun g87 => ?_) (fun g87 => ?_)
                  · refine r_iconst (pc := 435) (v := 0) dL_goesOn_435 (by decide) ?_
                    exact r_mask [true, true, true, true, false, false, false, false, true, false, false, false, false, false, false, false, false, false, false, false] rfl (hJ86 _ (by rw [if_pos g87]) _ hI)
                  · refine r_iconst (pc := 431) (v := 1) dL_goesOn_431 (by decide) ?_
                    refine r_goto (pc := 432) (tgt := 436) dL_goesOn_432 (by decide) ?_
                    exact r_mask [true, true, true, true, false, false, false, false, true, false, false, false, false, false, false, false, false, false, false, false] rfl (hJ86 _ (by rw [if_neg g87]) _ hI)
      refine r_if_eq (pc := 325) (tgt := 382) dL_goesOn_325 (by decide) h (fun h => ?_) (fun h => ?_)
      · refine r_iconst (pc := 382) (v := 0) dL_goesOn_382 (by decide) ?_
        exact r_mask [true, true, true, true, false, false, false, false, true, false, false, false, false, false, false, false, false, true, false, false] rfl (hJ55 _ _ h _ hI)
      · refine r_aload_n (pc := 328) dL_goesOn_328 rfl rfl ?_
        refine r_aload_n (pc := 329) dL_goesOn_329 rfl rfl ?_
        refine r_iload (pc := 330) dL_goesOn_330 rfl ?_
        obtain ⟨s88, x89, q90, eq90, kq90, h⟩ := gCN_some h
        refine r_callA (pc := 332) [.ref _, .ref _, .int _] (taL_waits _ hlt _ _ hF _ _ _ _ _ q90 h1 h2) cd_L_waits wL_242 nm_L_waits rfl (by rw [hRm]; decide) rfl (Nat.le_of_ble_eq_true rfl) dL_goesOn_332 hB eq90 kq90 hI (fun _ hI => ?_)
        refine r_if_eq (pc := 335) (tgt := 382) dL_goesOn_335 (by decide) h (fun h => ?_) (fun h => ?_)
        · refine r_iconst (pc := 382) (v := 0) dL_goesOn_382 (by decide) ?_
          exact r_mask [true, true, true, true, false, false, false, false, true, false, false, false, false, false, false, false, false, true, false, false] rfl (hJ55 _ _ h _ hI)
        · refine r_aload_n (pc := 338) dL_goesOn_338 rfl rfl ?_
          refine r_iconst (pc := 339) (v := 3) dL_goesOn_339 (by decide) ?_
          refine r_iload_n (pc := 340) dL_goesOn_340 rfl rfl ?_
          refine r_iconst (pc := 341) (v := 2) dL_goesOn_341 (by decide) ?_
          refine r_iconst (pc := 342) (v := 0) dL_goesOn_342 (by decide) ?_
          obtain ⟨s91, x92, q93, eq93, kq93, h⟩ := gCN_some h
          refine r_callA (pc := 343) [.ref _, .int _, .int _, .int _, .int _] (taL_call _ hlt _ _ hF _ _ _ _ _ _ _ q93 h1) cd_L_call wL_190 nm_L_call rfl (by rw [hRm]; decide) rfl (Nat.le_of_ble_eq_true rfl) dL_goesOn_343 hB eq93 kq93 hI (fun _ hI => ?_)
          refine r_jn1 h (fun x94 => AL gI2 Y cL_goesOn RL 354 [some (.ref a1), some (.ref a2), some (.int p3), some (.int x4), none, none, none, none, some (.int x18), none, none, none, none, none, none, none, some (.int x47), some (.int x49), none, none] [.int x94] s91) (fun x94 h => ?_) (fun hJ95 => ?_)
          · intro _ hI
            refine r_iload (pc := 354) dL_goesOn_354 rfl ?_
            refine r_iconst (pc := 356) (v := (-1)) dL_goesOn_356 (by decide) ?_
            refine r_jn1 h (fun x97 => AL gI2 Y cL_goesOn RL 365 [some (.ref a1), some (.ref a2), some (.int p3), some (.int x4), none, none, none, none, some (.int x18), none, none, none, none, none, none, none, none, some (.int x49), none, none] [.int x97, .int x94] s91) (fun x97 h => ?_) (fun hJ98 => ?_)
            · intro _ hI
              refine r_icmp_ne (pc := 365) (tgt := 382) dL_goesOn_365 (by decide) h (fun h => ?_) (fun h => ?_)
              · refine r_iconst (pc := 382) (v := 0) dL_goesOn_382 (by decide) ?_
                exact r_mask [true, true, true, true, false, false, false, false, true, false, false, false, false, false, false, false, false, true, false, false] rfl (hJ55 _ _ h _ hI)
              · refine r_aload_n (pc := 368) dL_goesOn_368 rfl rfl ?_
                refine r_aload_n (pc := 369) dL_goesOn_369 rfl rfl ?_
                refine r_iload (pc := 370) dL_goesOn_370 rfl ?_
                obtain ⟨s100, x101, q102, eq102, kq102, h⟩ := gCN_some h
                refine r_callA (pc := 372) [.ref _, .ref _, .int _] (taL_undoes _ hlt _ _ hF _ _ _ _ _ q102 h1 h2) cd_L_undoes wL_245 nm_L_undoes rfl (by rw [hRm]; decide) rfl (Nat.le_of_ble_eq_true rfl) dL_goesOn_372 hB eq102 kq102 hI (fun _ hI => ?_)
                refine r_if_eq (pc := 375) (tgt := 382) dL_goesOn_375 (by decide) h (fun h => ?_) (fun h => ?_)
                · refine r_iconst (pc := 382) (v := 0) dL_goesOn_382 (by decide) ?_
                  exact r_mask [true, true, true, true, false, false, false, false, true, false, false, false, false, false, false, false, false, true, false, false] rfl (hJ55 _ _ h _ hI)
                · refine r_iconst (pc := 378) (v := 1) dL_goesOn_378 (by decide) ?_
                  refine r_goto (pc := 379) (tgt := 383) dL_goesOn_379 (by decide) ?_
                  exact r_mask [true, true, true, true, false, false, false, false, true, false, false, false, false, false, false, false, false, true, false, false] rfl (hJ55 _ _ h _ hI)
            · refine r_icmpC_eq (pc := 357) (tgt := 364) dL_goesOn_357 (by decide) (fun g99 => ?_) (fun g99 => ?_)
              · refine r_iconst (pc := 364) (v := 0) dL_goesOn_364 (by decide) ?_
                exact r_mask [true, true, true, true, false, false, false, false, true, false, false, false, false, false, false, false, false, true, false, false] rfl (hJ98 _ (by rw [if_pos g99]) _ hI)
              · refine r_iconst (pc := 360) (v := 1) dL_goesOn_360 (by decide) ?_
                refine r_goto (pc := 361) (tgt := 365) dL_goesOn_361 (by decide) ?_
                exact r_mask [true, true, true, true, false, false, false, false, true, false, false, false, false, false, false, false, false, true, false, false] rfl (hJ98 _ (by rw [if_neg g99]) _ hI)
          · refine r_ifC_ne (pc := 346) (tgt := 353) dL_goesOn_346 (by decide) (fun g96 => ?_) (fun g96 => ?_)
            · refine r_iconst (pc := 353) (v := 0) dL_goesOn_353 (by decide) ?_
              exact r_mask [true, true, true, true, false, false, false, false, true, false, false, false, false, false, false, false, true, true, false, false] rfl (hJ95 _ (by rw [if_neg g96]) _ hI)
            · refine r_iconst (pc := 349) (v := 1) dL_goesOn_349 (by decide) ?_
              refine r_goto (pc := 350) (tgt := 354) dL_goesOn_350 (by decide) ?_
              exact r_mask [true, true, true, true, false, false, false, false, true, false, false, false, false, false, false, false, true, true, false, false] rfl (hJ95 _ (by rw [if_pos g96]) _ hI)
    · refine r_icmpC_ne (pc := 311) (tgt := 319) dL_goesOn_311 (by decide) (fun g51 => ?_) (fun g51 => ?_)
      · refine r_iload (pc := 319) dL_goesOn_319 rfl ?_
        exact r_mask [true, true, true, true, false, false, false, false, true, false, false, false, false, false, true, false, true, false, false, false] rfl (hJ50 _ (by rw [if_neg g51]) _ hI)
      · refine r_bipush (pc := 314) (v := 90) dL_goesOn_314 (by decide) ?_
        refine r_goto (pc := 316) (tgt := 321) dL_goesOn_316 (by decide) ?_
        exact r_mask [true, true, true, true, false, false, false, false, true, false, false, false, false, false, true, false, true, false, false, false] rfl (hJ50 _ (by rw [if_pos g51]) _ hI)
  refine r_if_eq (pc := 142) (tgt := 294) dL_goesOn_142 (by decide) h (fun h => ?_) (fun h => ?_)
  · refine r_iconst (pc := 294) (v := 0) dL_goesOn_294 (by decide) ?_
    exact r_mask [true, true, true, true, false, false, false, false, true, false, false, false, false, false, false, false, false, false, false, false] rfl (hJ45 _ _ h _ hI)
  · refine r_iload (pc := 145) dL_goesOn_145 rfl ?_
    refine r_jnK h (fun (k104 : gS × Nat → Option (gS × Int32)) => ∀ (s103 : gS × Nat), k104 s103 = some o → AL gI2 Y cL_goesOn RL 191 [some (.ref a1), some (.ref a2), some (.int p3), some (.int x4), none, some (.int x9), none, none, some (.int x18), some (.int x21), some (.int x24), some (.int x27), some (.int x30), some (.int x33), none, none, none, none, none, none] [] s103) (fun s103 h => ?_) (fun k104 hJ105 h => ?_)
    · intro _ hI
      refine r_aload_n (pc := 191) dL_goesOn_191 rfl rfl ?_
      refine r_iconst (pc := 192) (v := 3) dL_goesOn_192 (by decide) ?_
      refine r_iload_n (pc := 193) dL_goesOn_193 rfl rfl ?_
      refine r_iconst (pc := 194) (v := 2) dL_goesOn_194 (by decide) ?_
      refine r_iconst (pc := 195) (v := 0) dL_goesOn_195 (by decide) ?_
      obtain ⟨s106, x107, q108, eq108, kq108, h⟩ := gCN_some h
      refine r_callA (pc := 196) [.ref _, .int _, .int _, .int _, .int _] (taL_call _ hlt _ _ hF _ _ _ _ _ _ _ q108 h1) cd_L_call wL_190 nm_L_call rfl (by rw [hRm]; decide) rfl (Nat.le_of_ble_eq_true rfl) dL_goesOn_196 hB eq108 kq108 hI (fun _ hI => ?_)
      refine r_iload (pc := 199) dL_goesOn_199 rfl ?_
      refine r_icmp_ne (pc := 201) (tgt := 294) dL_goesOn_201 (by decide) h (fun h => ?_) (fun h => ?_)
      · refine r_iconst (pc := 294) (v := 0) dL_goesOn_294 (by decide) ?_
        exact r_mask [true, true, true, true, false, false, false, false, true, false, false, false, false, false, false, false, false, false, false, false] rfl (hJ45 _ _ h _ hI)
      · refine r_aload_n (pc := 204) dL_goesOn_204 rfl rfl ?_
        refine r_iconst (pc := 205) (v := 2) dL_goesOn_205 (by decide) ?_
        refine r_bipush (pc := 206) (v := 8) dL_goesOn_206 (by decide) ?_
        refine r_iconst (pc := 208) (v := 0) dL_goesOn_208 (by decide) ?_
        refine r_iconst (pc := 209) (v := 0) dL_goesOn_209 (by decide) ?_
        obtain ⟨s109, x110, q111, eq111, kq111, h⟩ := gCN_some h
        refine r_callA (pc := 210) [.ref _, .int _, .int _, .int _, .int _] (taL_call _ hlt _ _ hF _ _ _ _ _ _ _ q111 h1) cd_L_call wL_190 nm_L_call rfl (by rw [hRm]; decide) rfl (Nat.le_of_ble_eq_true rfl) dL_goesOn_210 hB eq111 kq111 hI (fun _ hI => ?_)
        refine r_iload (pc := 213) dL_goesOn_213 rfl ?_
        refine r_iload (pc := 215) dL_goesOn_215 rfl ?_
        refine r_iload (pc := 217) dL_goesOn_217 rfl ?_
        refine r_imul (pc := 219) dL_goesOn_219 ?_
        refine r_iadd (pc := 220) dL_goesOn_220 ?_
        refine r_icmp_ne (pc := 221) (tgt := 294) dL_goesOn_221 (by decide) h (fun h => ?_) (fun h => ?_)
        · refine r_iconst (pc := 294) (v := 0) dL_goesOn_294 (by decide) ?_
          exact r_mask [true, true, true, true, false, false, false, false, true, false, false, false, false, false, false, false, false, false, false, false] rfl (hJ45 _ _ h _ hI)
        · refine r_aload_n (pc := 224) dL_goesOn_224 rfl rfl ?_
          refine r_iconst (pc := 225) (v := 2) dL_goesOn_225 (by decide) ?_
          refine r_bipush (pc := 226) (v := 9) dL_goesOn_226 (by decide) ?_
          refine r_iconst (pc := 228) (v := 0) dL_goesOn_228 (by decide) ?_
          refine r_iconst (pc := 229) (v := 0) dL_goesOn_229 (by decide) ?_
          obtain ⟨s112, x113, q114, eq114, kq114, h⟩ := gCN_some h
          refine r_callA (pc := 230) [.ref _, .int _, .int _, .int _, .int _] (taL_call _ hlt _ _ hF _ _ _ _ _ _ _ q114 h1) cd_L_call wL_190 nm_L_call rfl (by rw [hRm]; decide) rfl (Nat.le_of_ble_eq_true rfl) dL_goesOn_230 hB eq114 kq114 hI (fun _ hI => ?_)
          refine r_iload (pc := 233) dL_goesOn_233 rfl ?_
          refine r_iload (pc := 235) dL_goesOn_235 rfl ?_
          refine r_aload_n (pc := 237) dL_goesOn_237 rfl rfl ?_
          refine r_iconst (pc := 238) (v := 2) dL_goesOn_238 (by decide) ?_
          refine r_bipush (pc := 239) (v := 7) dL_goesOn_239 (by decide) ?_
          refine r_iconst (pc := 241) (v := 0) dL_goesOn_241 (by decide) ?_
          refine r_iconst (pc := 242) (v := 0) dL_goesOn_242 (by decide) ?_
          obtain ⟨s115, x116, q117, eq117, kq117, h⟩ := gCN_some h
          refine r_callA (pc := 243) [.ref _, .int _, .int _, .int _, .int _] (taL_call _ hlt _ _ hF _ _ _ _ _ _ _ q117 h1) cd_L_call wL_190 nm_L_call rfl (by rw [hRm]; decide) rfl (Nat.le_of_ble_eq_true rfl) dL_goesOn_243 hB eq117 kq117 hI (fun _ hI => ?_)
          refine r_iload (pc := 246) dL_goesOn_246 rfl ?_
          refine r_isub (pc := 248) dL_goesOn_248 ?_
          refine r_imul (pc := 249) dL_goesOn_249 ?_
          refine r_iadd (pc := 250) dL_goesOn_250 ?_
          refine r_icmp_ne (pc := 251) (tgt := 294) dL_goesOn_251 (by decide) h (fun h => ?_) (fun h => ?_)
          · refine r_iconst (pc := 294) (v := 0) dL_goesOn_294 (by decide) ?_
            exact r_mask [true, true, true, true, false, false, false, false, true, false, false, false, false, false, false, false, false, false, false, false] rfl (hJ45 _ _ h _ hI)
          · refine r_iload (pc := 254) dL_goesOn_254 rfl ?_
            refine r_aload_n (pc := 256) dL_goesOn_256 rfl rfl ?_
            refine r_bipush (pc := 257) (v := 8) dL_goesOn_257 (by decide) ?_
            refine r_iconst (pc := 259) (v := 3) dL_goesOn_259 (by decide) ?_
            refine r_iconst (pc := 260) (v := 0) dL_goesOn_260 (by decide) ?_
            refine r_iconst (pc := 261) (v := 0) dL_goesOn_261 (by decide) ?_
            obtain ⟨s118, x119, q120, eq120, kq120, h⟩ := gCN_some h
            refine r_callA (pc := 262) [.ref _, .int _, .int _, .int _, .int _] (taL_call _ hlt _ _ hF _ _ _ _ _ _ _ q120 h1) cd_L_call wL_190 nm_L_call rfl (by rw [hRm]; decide) rfl (Nat.le_of_ble_eq_true rfl) dL_goesOn_262 hB eq120 kq120 hI (fun _ hI => ?_)
            refine r_icmp_gt (pc := 265) (tgt := 294) dL_goesOn_265 (by decide) h (fun h => ?_) (fun h => ?_)
            · refine r_iconst (pc := 294) (v := 0) dL_goesOn_294 (by decide) ?_
              exact r_mask [true, true, true, true, false, false, false, false, true, false, false, false, false, false, false, false, false, false, false, false] rfl (hJ45 _ _ h _ hI)
            · refine r_aload_n (pc := 268) dL_goesOn_268 rfl rfl ?_
              refine r_aload_n (pc := 269) dL_goesOn_269 rfl rfl ?_
              refine r_iconst (pc := 270) (v := 1) dL_goesOn_270 (by decide) ?_
              obtain ⟨s121, x122, q123, eq123, kq123, h⟩ := gCN_some h
              refine r_callA (pc := 271) [.ref _, .ref _, .int _] (taL_undoes _ hlt _ _ hF _ _ _ _ _ q123 h1 h2) cd_L_undoes wL_245 nm_L_undoes rfl (by rw [hRm]; decide) rfl (Nat.le_of_ble_eq_true rfl) dL_goesOn_271 hB eq123 kq123 hI (fun _ hI => ?_)
              refine r_if_eq (pc := 274) (tgt := 294) dL_goesOn_274 (by decide) h (fun h => ?_) (fun h => ?_)
              · refine r_iconst (pc := 294) (v := 0) dL_goesOn_294 (by decide) ?_
                exact r_mask [true, true, true, true, false, false, false, false, true, false, false, false, false, false, false, false, false, false, false, false] rfl (hJ45 _ _ h _ hI)
              · refine r_aload_n (pc := 277) dL_goesOn_277 rfl rfl ?_
                refine r_iconst (pc := 278) (v := 3) dL_goesOn_278 (by decide) ?_
                refine r_iload_n (pc := 279) dL_goesOn_279 rfl rfl ?_
                refine r_iconst (pc := 280) (v := 2) dL_goesOn_280 (by decide) ?_
                refine r_iconst (pc := 281) (v := 0) dL_goesOn_281 (by decide) ?_
                obtain ⟨s124, x125, q126, eq126, kq126, h⟩ := gCN_some h
                refine r_callA (pc := 282) [.ref _, .int _, .int _, .int _, .int _] (taL_call _ hlt _ _ hF _ _ _ _ _ _ _ q126 h1) cd_L_call wL_190 nm_L_call rfl (by rw [hRm]; decide) rfl (Nat.le_of_ble_eq_true rfl) dL_goesOn_282 hB eq126 kq126 hI (fun _ hI => ?_)
                refine r_iload (pc := 285) dL_goesOn_285 rfl ?_
                refine r_icmp_ne (pc := 287) (tgt := 294) dL_goesOn_287 (by decide) h (fun h => ?_) (fun h => ?_)
                · refine r_iconst (pc := 294) (v := 0) dL_goesOn_294 (by decide) ?_
                  exact r_mask [true, true, true, true, false, false, false, false, true, false, false, false, false, false, false, false, false, false, false, false] rfl (hJ45 _ _ h _ hI)
                · refine r_iconst (pc := 290) (v := 1) dL_goesOn_290 (by decide) ?_
                  refine r_goto (pc := 291) (tgt := 295) dL_goesOn_291 (by decide) ?_
                  exact r_mask [true, true, true, true, false, false, false, false, true, false, false, false, false, false, false, false, false, false, false, false] rfl (hJ45 _ _ h _ hI)
    refine r_if_ne (pc := 147) (tgt := 165) dL_goesOn_147 (by decide) h (fun h => ?_) (fun h => ?_)
    · refine r_iload (pc := 165) dL_goesOn_165 rfl ?_
      refine r_iconst (pc := 167) (v := 5) dL_goesOn_167 (by decide) ?_
      refine r_icmp_ne (pc := 168) (tgt := 186) dL_goesOn_168 (by decide) h (fun h => ?_) (fun h => ?_)
      · refine r_iload (pc := 186) dL_goesOn_186 rfl ?_
        refine r_if_ne (pc := 188) (tgt := 294) dL_goesOn_188 (by decide) h (fun h => ?_) (fun h => ?_)
        · refine r_iconst (pc := 294) (v := 0) dL_goesOn_294 (by decide) ?_
          exact r_mask [true, true, true, true, false, false, false, false, true, false, false, false, false, false, false, false, false, false, false, false] rfl (hJ45 _ _ h _ hI)
        · exact r_mask [true, true, true, true, false, true, false, false, true, true, true, true, true, true, false, false, false, false, false, false] rfl (hJ105 _ h _ hI)
      · refine r_iload (pc := 171) dL_goesOn_171 rfl ?_
        refine r_if_le (pc := 173) (tgt := 294) dL_goesOn_173 (by decide) h (fun h => ?_) (fun h => ?_)
        · refine r_iconst (pc := 294) (v := 0) dL_goesOn_294 (by decide) ?_
          exact r_mask [true, true, true, true, false, false, false, false, true, false, false, false, false, false, false, false, false, false, false, false] rfl (hJ45 _ _ h _ hI)
        · refine r_iload (pc := 176) dL_goesOn_176 rfl ?_
          refine r_iload (pc := 178) dL_goesOn_178 rfl ?_
          refine r_icmp_ge (pc := 180) (tgt := 294) dL_goesOn_180 (by decide) h (fun h => ?_) (fun h => ?_)
          · refine r_iconst (pc := 294) (v := 0) dL_goesOn_294 (by decide) ?_
            exact r_mask [true, true, true, true, false, false, false, false, true, false, false, false, false, false, false, false, false, false, false, false] rfl (hJ45 _ _ h _ hI)
          · refine r_goto (pc := 183) (tgt := 191) dL_goesOn_183 (by decide) ?_
            exact r_mask [true, true, true, true, false, true, false, false, true, true, true, true, true, true, false, false, false, false, false, false] rfl (hJ105 _ h _ hI)
    · refine r_iload (pc := 150) dL_goesOn_150 rfl ?_
      refine r_iload (pc := 152) dL_goesOn_152 rfl ?_
      refine r_icmp_ne (pc := 154) (tgt := 294) dL_goesOn_154 (by decide) h (fun h => ?_) (fun h => ?_)
      · refine r_iconst (pc := 294) (v := 0) dL_goesOn_294 (by decide) ?_
        exact r_mask [true, true, true, true, false, false, false, false, true, false, false, false, false, false, false, false, false, false, false, false] rfl (hJ45 _ _ h _ hI)
      · refine r_iload (pc := 157) dL_goesOn_157 rfl ?_
        refine r_if_le (pc := 159) (tgt := 294) dL_goesOn_159 (by decide) h (fun h => ?_) (fun h => ?_)
        · refine r_iconst (pc := 294) (v := 0) dL_goesOn_294 (by decide) ?_
          exact r_mask [true, true, true, true, false, false, false, false, true, false, false, false, false, false, false, false, false, false, false, false] rfl (hJ45 _ _ h _ hI)
        · refine r_goto (pc := 162) (tgt := 191) dL_goesOn_162 (by decide) ?_
          exact r_mask [true, true, true, true, false, true, false, false, true, true, true, true, true, true, false, false, false, false, false, false] rfl (hJ105 _ h _ hI)
set_option maxHeartbeats 8000000 in
set_option maxRecDepth 100000 in
theorem taL_best (l : Launch) (hlt : l.stackTraces = false) (G : gX) (u : gU) (hF : gFull u) (a1 : Nat) (a2 : Nat) (p3 : Int32) (t : gS) (o : gS × Int32) (h : aL_best a1 a2 p3 t = some o) (h1 : gIn u a1 4 0) (h2 : gIn u a2 4 0) : gMetA gI2 l G u yL_best (.code yL_best cL_best 13 (some .boolean)) 12 241 250 [.ref a1, .ref a2, .int p3] t o.1 (some (.int o.2)) := by
  refine gMetA_of (own := RL) (k := 10) (by decide) rfl (Nat.le_of_ble_eq_true rfl) [some (.ref a1), some (.ref a2), some (.int p3), none, none, none, none, none, none, none, none, none, none] rfl (fun Y hG hu hnL hLn hRm hB he => ?_)
  subst hG hu hLn
  unfold aL_best aL_bestB at h
  generalize ((t, 0) : gS × Nat) = s at h ⊢
  intro _ hI
  refine r_iconst (pc := 0) (v := 1) dL_best_0 (by decide) ?_
  refine r_iload_n (pc := 1) dL_best_1 rfl rfl ?_
  refine r_bipush (pc := 2) (v := 12) dL_best_2 (by decide) ?_
  refine r_iremc (pc := 4) dL_best_4 (by decide) ?_
  refine r_iadd (pc := 5) dL_best_5 ?_
  refine r_istore_nL (pc := 6) dL_best_6 rfl (by rw [gYn_nL, hnL]; decide) h (fun x1 h => ?_)
  refine r_aload_n (pc := 7) dL_best_7 rfl rfl ?_
  refine r_bipush (pc := 8) (v := 21) dL_best_8 (by decide) ?_
  refine r_iload_n (pc := 10) dL_best_10 rfl rfl ?_
  refine r_iconst (pc := 11) (v := 0) dL_best_11 (by decide) ?_
  refine r_iconst (pc := 12) (v := 0) dL_best_12 (by decide) ?_
  obtain ⟨s2, x3, q4, eq4, kq4, h⟩ := gCN_some h
  refine r_callA (pc := 13) [.ref _, .int _, .int _, .int _, .int _] (taL_call _ hlt _ _ hF _ _ _ _ _ _ _ q4 h1) cd_L_call wL_190 nm_L_call rfl (by rw [hRm]; decide) rfl (Nat.le_of_ble_eq_true rfl) dL_best_13 hB eq4 kq4 hI (fun _ hI => ?_)
  refine r_istore (pc := 16) dL_best_16 (by rw [gYn_nL, hnL]; decide) rfl ?_
  refine r_sipush (pc := 18) (v := 1000) dL_best_18 (by decide) ?_
  refine r_aload_n (pc := 21) dL_best_21 rfl rfl ?_
  refine r_bipush (pc := 22) (v := 7) dL_best_22 (by decide) ?_
  refine r_iconst (pc := 24) (v := 0) dL_best_24 (by decide) ?_
  refine r_iconst (pc := 25) (v := 0) dL_best_25 (by decide) ?_
  refine r_iconst (pc := 26) (v := 0) dL_best_26 (by decide) ?_
  obtain ⟨s5, x6, q7, eq7, kq7, h⟩ := gCN_some h
  refine r_callA (pc := 27) [.ref _, .int _, .int _, .int _, .int _] (taL_call _ hlt _ _ hF _ _ _ _ _ _ _ q7 h1) cd_L_call wL_190 nm_L_call rfl (by rw [hRm]; decide) rfl (Nat.le_of_ble_eq_true rfl) dL_best_27 hB eq7 kq7 hI (fun _ hI => ?_)
  refine r_imul (pc := 30) dL_best_30 ?_
  refine r_bipush (pc := 31) (v := 100) dL_best_31 (by decide) ?_
  refine r_aload_n (pc := 33) dL_best_33 rfl rfl ?_
  refine r_bipush (pc := 34) (v := 7) dL_best_34 (by decide) ?_
  refine r_iconst (pc := 36) (v := 1) dL_best_36 (by decide) ?_
  refine r_iconst (pc := 37) (v := 0) dL_best_37 (by decide) ?_
  refine r_iconst (pc := 38) (v := 0) dL_best_38 (by decide) ?_
  obtain ⟨s8, x9, q10, eq10, kq10, h⟩ := gCN_some h
  refine r_callA (pc := 39) [.ref _, .int _, .int _, .int _, .int _] (taL_call _ hlt _ _ hF _ _ _ _ _ _ _ q10 h1) cd_L_call wL_190 nm_L_call rfl (by rw [hRm]; decide) rfl (Nat.le_of_ble_eq_true rfl) dL_best_39 hB eq10 kq10 hI (fun _ hI => ?_)
  refine r_imul (pc := 42) dL_best_42 ?_
  refine r_iadd (pc := 43) dL_best_43 ?_
  refine r_bipush (pc := 44) (v := 10) dL_best_44 (by decide) ?_
  refine r_aload_n (pc := 46) dL_best_46 rfl rfl ?_
  refine r_bipush (pc := 47) (v := 7) dL_best_47 (by decide) ?_
  refine r_iconst (pc := 49) (v := 2) dL_best_49 (by decide) ?_
  refine r_iconst (pc := 50) (v := 0) dL_best_50 (by decide) ?_
  refine r_iconst (pc := 51) (v := 0) dL_best_51 (by decide) ?_
  obtain ⟨s11, x12, q13, eq13, kq13, h⟩ := gCN_some h
  refine r_callA (pc := 52) [.ref _, .int _, .int _, .int _, .int _] (taL_call _ hlt _ _ hF _ _ _ _ _ _ _ q13 h1) cd_L_call wL_190 nm_L_call rfl (by rw [hRm]; decide) rfl (Nat.le_of_ble_eq_true rfl) dL_best_52 hB eq13 kq13 hI (fun _ hI => ?_)
  refine r_imul (pc := 55) dL_best_55 ?_
  refine r_iadd (pc := 56) dL_best_56 ?_
  refine r_aload_n (pc := 57) dL_best_57 rfl rfl ?_
  refine r_bipush (pc := 58) (v := 7) dL_best_58 (by decide) ?_
  refine r_iconst (pc := 60) (v := 3) dL_best_60 (by decide) ?_
  refine r_iconst (pc := 61) (v := 0) dL_best_61 (by decide) ?_
  refine r_iconst (pc := 62) (v := 0) dL_best_62 (by decide) ?_
  obtain ⟨s14, x15, q16, eq16, kq16, h⟩ := gCN_some h
  refine r_callA (pc := 63) [.ref _, .int _, .int _, .int _, .int _] (taL_call _ hlt _ _ hF _ _ _ _ _ _ _ q16 h1) cd_L_call wL_190 nm_L_call rfl (by rw [hRm]; decide) rfl (Nat.le_of_ble_eq_true rfl) dL_best_63 hB eq16 kq16 hI (fun _ hI => ?_)
  refine r_iadd (pc := 66) dL_best_66 ?_
  refine r_istoreL (pc := 67) dL_best_67 (by rw [gYn_nL, hnL]; decide) h (fun x17 h => ?_)
  refine r_aload_n (pc := 69) dL_best_69 rfl rfl ?_
  refine r_aload_n (pc := 70) dL_best_70 rfl rfl ?_
  refine r_iload_n (pc := 71) dL_best_71 rfl rfl ?_
  obtain ⟨s18, x19, q20, eq20, kq20, h⟩ := gCN_some h
  refine r_callA (pc := 72) [.ref _, .ref _, .int _] (taL_waits _ hlt _ _ hF _ _ _ _ _ q20 h1 h2) cd_L_waits wL_242 nm_L_waits rfl (by rw [hRm]; decide) rfl (Nat.le_of_ble_eq_true rfl) dL_best_72 hB eq20 kq20 hI (fun _ hI => ?_)
  refine r_istore (pc := 75) dL_best_75 (by rw [gYn_nL, hnL]; decide) rfl ?_
  refine r_aload_n (pc := 77) dL_best_77 rfl rfl ?_
  refine r_iconst (pc := 78) (v := 2) dL_best_78 (by decide) ?_
  refine r_bipush (pc := 79) (v := 6) dL_best_79 (by decide) ?_
  refine r_iconst (pc := 81) (v := 0) dL_best_81 (by decide) ?_
  refine r_iconst (pc := 82) (v := 0) dL_best_82 (by decide) ?_
  obtain ⟨s21, x22, q23, eq23, kq23, h⟩ := gCN_some h
  refine r_callA (pc := 83) [.ref _, .int _, .int _, .int _, .int _] (taL_call _ hlt _ _ hF _ _ _ _ _ _ _ q23 h1) cd_L_call wL_190 nm_L_call rfl (by rw [hRm]; decide) rfl (Nat.le_of_ble_eq_true rfl) dL_best_83 hB eq23 kq23 hI (fun _ hI => ?_)
  refine r_istore (pc := 86) dL_best_86 (by rw [gYn_nL, hnL]; decide) rfl ?_
  refine r_iload (pc := 88) dL_best_88 rfl ?_
  refine r_jnK h (fun (k26 : Int32 → gS × Nat → Option (gS × Int32)) => ∀ (x24 : Int32) (s25 : gS × Nat), k26 x24 s25 = some o → AL gI2 Y cL_best RL 107 [some (.ref a1), some (.ref a2), none, some (.int x1), some (.int x3), some (.int x17), none, some (.int x22), none, none, none, none, none] [.int x24] s25) (fun x24 s25 h => ?_) (fun k26 hJ27 h => ?_)
  · intro _ hI
    refine r_istore (pc := 107) dL_best_107 (by rw [gYn_nL, hnL]; decide) rfl ?_
    refine r_iconst (pc := 109) (v := 0) dL_best_109 (by decide) ?_
    refine r_istore (pc := 110) dL_best_110 (by rw [gYn_nL, hnL]; decide) rfl ?_
    refine r_iconst (pc := 112) (v := 0) dL_best_112 (by decide) ?_
    refine r_istore (pc := 113) dL_best_113 (by rw [gYn_nL, hnL]; decide) rfl ?_
    refine r_jnK h (fun (k31 : Int32 → Int32 → gS × Nat → Option (gS × Int32)) => ∀ (x28 : Int32) (x29 : Int32) (s30 : gS × Nat), k31 x28 x29 s30 = some o → AL gI2 Y cL_best RL 227 [some (.ref a1), some (.ref a2), none, some (.int x1), some (.int x3), some (.int x17), some (.int x28), some (.int x22), some (.int x29), none, none, none, none] [] s30) (fun x28 x29 s30 h => ?_) (fun k31 hJ32 h => ?_)
    · intro _ hI
      refine r_iload (pc := 227) dL_best_227 rfl ?_
      refine r_jnK h (fun (k35 : Int32 → gS × Nat → Option (gS × Int32)) => ∀ (x33 : Int32) (s34 : gS × Nat), k35 x33 s34 = some o → AL gI2 Y cL_best RL 255 [some (.ref a1), some (.ref a2), none, some (.int x1), some (.int x3), some (.int x17), none, some (.int x22), some (.int x29), none, none, none, none] [.int x33] s34) (fun x33 s34 h => ?_) (fun k35 hJ36 h => ?_)
      · intro _ hI
        refine r_istore (pc := 255) dL_best_255 (by rw [gYn_nL, hnL]; decide) rfl ?_
        refine r_aload_n (pc := 257) dL_best_257 rfl rfl ?_
        refine r_iconst (pc := 258) (v := 2) dL_best_258 (by decide) ?_
        refine r_bipush (pc := 259) (v := 6) dL_best_259 (by decide) ?_
        refine r_iconst (pc := 261) (v := 0) dL_best_261 (by decide) ?_
        refine r_iconst (pc := 262) (v := 0) dL_best_262 (by decide) ?_
        obtain ⟨s37, x38, q39, eq39, kq39, h⟩ := gCN_some h
        refine r_callA (pc := 263) [.ref _, .int _, .int _, .int _, .int _] (taL_call _ hlt _ _ hF _ _ _ _ _ _ _ q39 h1) cd_L_call wL_190 nm_L_call rfl (by rw [hRm]; decide) rfl (Nat.le_of_ble_eq_true rfl) dL_best_263 hB eq39 kq39 hI (fun _ hI => ?_)
        refine r_istore (pc := 266) dL_best_266 (by rw [gYn_nL, hnL]; decide) rfl ?_
        refine r_iload (pc := 268) dL_best_268 rfl ?_
        refine r_jnK h (fun (k42 : Int32 → gS × Nat → Option (gS × Int32)) => ∀ (x40 : Int32) (s41 : gS × Nat), k42 x40 s41 = some o → AL gI2 Y cL_best RL 308 [some (.ref a1), some (.ref a2), none, some (.int x1), none, none, none, none, some (.int x29), none, none, none, none] [.int x40] s41) (fun x40 s41 h => ?_) (fun k42 hJ43 h => ?_)
        · intro _ hI
          refine r_istore (pc := 308) dL_best_308 (by rw [gYn_nL, hnL]; decide) rfl ?_
          refine r_iconst (pc := 310) (v := 0) dL_best_310 (by decide) ?_
          refine r_istore (pc := 311) dL_best_311 (by rw [gYn_nL, hnL]; decide) rfl ?_
          refine r_jnK h (fun (k46 : Int32 → gS × Nat → Option (gS × Int32)) => ∀ (x44 : Int32) (s45 : gS × Nat), k46 x44 s45 = some o → AL gI2 Y cL_best RL 368 [some (.ref a1), some (.ref a2), none, some (.int x1), none, none, some (.int x44), none, none, none, none, none, none] [] s45) (fun x44 s45 h => ?_) (fun k46 hJ47 h => ?_)
          · intro _ hI
            refine r_aload_n (pc := 368) dL_best_368 rfl rfl ?_
            refine r_bipush (pc := 369) (v := 20) dL_best_369 (by decide) ?_
            refine r_iload_n (pc := 371) dL_best_371 rfl rfl ?_
            refine r_iconst (pc := 372) (v := 0) dL_best_372 (by decide) ?_
            refine r_iconst (pc := 373) (v := 0) dL_best_373 (by decide) ?_
            obtain ⟨s48, x49, q50, eq50, kq50, h⟩ := gCN_some h
            refine r_callA (pc := 374) [.ref _, .int _, .int _, .int _, .int _] (taL_call _ hlt _ _ hF _ _ _ _ _ _ _ q50 h1) cd_L_call wL_190 nm_L_call rfl (by rw [hRm]; decide) rfl (Nat.le_of_ble_eq_true rfl) dL_best_374 hB eq50 kq50 hI (fun _ hI => ?_)
            refine r_istore (pc := 377) dL_best_377 (by rw [gYn_nL, hnL]; decide) rfl ?_
            refine r_aload_n (pc := 379) dL_best_379 rfl rfl ?_
            refine r_bipush (pc := 380) (v := 14) dL_best_380 (by decide) ?_
            refine r_iconst (pc := 382) (v := 0) dL_best_382 (by decide) ?_
            refine r_iload (pc := 383) dL_best_383 rfl ?_
            refine r_iconst (pc := 385) (v := 0) dL_best_385 (by decide) ?_
            obtain ⟨s51, x52, q53, eq53, kq53, h⟩ := gCN_some h
            refine r_callA (pc := 386) [.ref _, .int _, .int _, .int _, .int _] (taL_call _ hlt _ _ hF _ _ _ _ _ _ _ q53 h1) cd_L_call wL_190 nm_L_call rfl (by rw [hRm]; decide) rfl (Nat.le_of_ble_eq_true rfl) dL_best_386 hB eq53 kq53 hI (fun _ hI => ?_)
            refine r_istore (pc := 389) dL_best_389 (by rw [gYn_nL, hnL]; decide) rfl ?_
            refine r_iload (pc := 391) dL_best_391 rfl ?_
            refine r_jnK h (fun (k56 : Int32 → gS × Nat → Option (gS × Int32)) => ∀ (x54 : Int32) (s55 : gS × Nat), k56 x54 s55 = some o → AL gI2 Y cL_best RL 428 [some (.ref a1), some (.ref a2), none, some (.int x1), none, none, none, none, none, none, some (.int x49), some (.int x52), none] [.int x54] s55) (fun x54 s55 h => ?_) (fun k56 hJ57 h => ?_)
            · intro _ hI
              refine r_istore (pc := 428) dL_best_428 (by rw [gYn_nL, hnL]; decide) rfl ?_
              refine r_iconst (pc := 430) (v := 0) dL_best_430 (by decide) ?_
              refine r_istore (pc := 431) dL_best_431 (by rw [gYn_nL, hnL]; decide) rfl ?_
              refine r_jnK h (fun (k60 : Int32 → gS × Nat → Option (gS × Int32)) => ∀ (x58 : Int32) (s59 : gS × Nat), k60 x58 s59 = some o → AL gI2 Y cL_best RL 478 [some (.ref a1), some (.ref a2), none, some (.int x1), none, none, some (.int x58), none, none, none, some (.int x49), some (.int x52), none] [] s59) (fun x58 s59 h => ?_) (fun k60 hJ61 h => ?_)
              · intro _ hI
                refine r_aload_n (pc := 478) dL_best_478 rfl rfl ?_
                refine r_iconst (pc := 479) (v := 2) dL_best_479 (by decide) ?_
                refine r_bipush (pc := 480) (v := 11) dL_best_480 (by decide) ?_
                refine r_iconst (pc := 482) (v := 0) dL_best_482 (by decide) ?_
                refine r_iconst (pc := 483) (v := 0) dL_best_483 (by decide) ?_
                obtain ⟨s62, x63, q64, eq64, kq64, h⟩ := gCN_some h
                refine r_callA (pc := 484) [.ref _, .int _, .int _, .int _, .int _] (taL_call _ hlt _ _ hF _ _ _ _ _ _ _ q64 h1) cd_L_call wL_190 nm_L_call rfl (by rw [hRm]; decide) rfl (Nat.le_of_ble_eq_true rfl) dL_best_484 hB eq64 kq64 hI (fun _ hI => ?_)
                refine r_istore (pc := 487) dL_best_487 (by rw [gYn_nL, hnL]; decide) rfl ?_
                refine r_iload (pc := 489) dL_best_489 rfl ?_
                refine r_jnK h (fun (k67 : Int32 → gS × Nat → Option (gS × Int32)) => ∀ (x65 : Int32) (s66 : gS × Nat), k67 x65 s66 = some o → AL gI2 Y cL_best RL 545 [some (.ref a1), some (.ref a2), none, none, none, none, none, none, none, none, none, some (.int x52), none] [.int x65] s66) (fun x65 s66 h => ?_) (fun k67 hJ68 h => ?_)
                · intro _ hI
                  refine r_istore (pc := 545) dL_best_545 (by rw [gYn_nL, hnL]; decide) rfl ?_
                  refine r_iload (pc := 547) dL_best_547 rfl ?_
                  refine r_if_eq (pc := 549) (tgt := 600) dL_best_549 (by decide) h (fun h => ?_) (fun h => ?_)
                  · refine r_iconst (pc := 600) (v := 0) dL_best_600 (by decide) ?_
                    exact r_zretA dL_best_601 rfl h he hI
                  · refine r_aload_n (pc := 552) dL_best_552 rfl rfl ?_
                    refine r_bipush (pc := 553) (v := 16) dL_best_553 (by decide) ?_
                    refine r_iconst (pc := 555) (v := 0) dL_best_555 (by decide) ?_
                    refine r_iconst (pc := 556) (v := 0) dL_best_556 (by decide) ?_
                    refine r_iconst (pc := 557) (v := 0) dL_best_557 (by decide) ?_
                    obtain ⟨s69, x70, q71, eq71, kq71, h⟩ := gCN_some h
                    refine r_callA (pc := 558) [.ref _, .int _, .int _, .int _, .int _] (taL_call _ hlt _ _ hF _ _ _ _ _ _ _ q71 h1) cd_L_call wL_190 nm_L_call rfl (by rw [hRm]; decide) rfl (Nat.le_of_ble_eq_true rfl) dL_best_558 hB eq71 kq71 hI (fun _ hI => ?_)
                    obtain ⟨s72, x73, q74, eq74, kq74, h⟩ := gCN_some h
                    refine r_callA (pc := 561) [.int _] (taL_thrown _ hlt _ _ hF _ _ _ q74) cd_L_thrown wL_238 nm_L_thrown rfl (by rw [hRm]; decide) rfl (Nat.le_of_ble_eq_true rfl) dL_best_561 hB eq74 kq74 hI (fun _ hI => ?_)
                    refine r_if_ne (pc := 564) (tgt := 600) dL_best_564 (by decide) h (fun h => ?_) (fun h => ?_)
                    · refine r_iconst (pc := 600) (v := 0) dL_best_600 (by decide) ?_
                      exact r_zretA dL_best_601 rfl h he hI
                    · refine r_aload_n (pc := 567) dL_best_567 rfl rfl ?_
                      refine r_bipush (pc := 568) (v := 16) dL_best_568 (by decide) ?_
                      refine r_iconst (pc := 570) (v := 0) dL_best_570 (by decide) ?_
                      refine r_iconst (pc := 571) (v := 0) dL_best_571 (by decide) ?_
                      refine r_iconst (pc := 572) (v := 0) dL_best_572 (by decide) ?_
                      obtain ⟨s75, x76, q77, eq77, kq77, h⟩ := gCN_some h
                      refine r_callA (pc := 573) [.ref _, .int _, .int _, .int _, .int _] (taL_call _ hlt _ _ hF _ _ _ _ _ _ _ q77 h2) cd_L_call wL_190 nm_L_call rfl (by rw [hRm]; decide) rfl (Nat.le_of_ble_eq_true rfl) dL_best_573 hB eq77 kq77 hI (fun _ hI => ?_)
                      obtain ⟨s78, x79, q80, eq80, kq80, h⟩ := gCN_some h
                      refine r_callA (pc := 576) [.int _] (taL_thrown _ hlt _ _ hF _ _ _ q80) cd_L_thrown wL_238 nm_L_thrown rfl (by rw [hRm]; decide) rfl (Nat.le_of_ble_eq_true rfl) dL_best_576 hB eq80 kq80 hI (fun _ hI => ?_)
                      refine r_if_ne (pc := 579) (tgt := 600) dL_best_579 (by decide) h (fun h => ?_) (fun h => ?_)
                      · refine r_iconst (pc := 600) (v := 0) dL_best_600 (by decide) ?_
                        exact r_zretA dL_best_601 rfl h he hI
                      · refine r_aload_n (pc := 582) dL_best_582 rfl rfl ?_
                        refine r_bipush (pc := 583) (v := 8) dL_best_583 (by decide) ?_
                        refine r_iconst (pc := 585) (v := 0) dL_best_585 (by decide) ?_
                        refine r_iconst (pc := 586) (v := 0) dL_best_586 (by decide) ?_
                        refine r_iconst (pc := 587) (v := 0) dL_best_587 (by decide) ?_
                        obtain ⟨s81, x82, q83, eq83, kq83, h⟩ := gCN_some h
                        refine r_callA (pc := 588) [.ref _, .int _, .int _, .int _, .int _] (taL_call _ hlt _ _ hF _ _ _ _ _ _ _ q83 h1) cd_L_call wL_190 nm_L_call rfl (by rw [hRm]; decide) rfl (Nat.le_of_ble_eq_true rfl) dL_best_588 hB eq83 kq83 hI (fun _ hI => ?_)
                        refine r_iload (pc := 591) dL_best_591 rfl ?_
                        refine r_icmp_ne (pc := 593) (tgt := 600) dL_best_593 (by decide) h (fun h => ?_) (fun h => ?_)
                        · refine r_iconst (pc := 600) (v := 0) dL_best_600 (by decide) ?_
                          exact r_zretA dL_best_601 rfl h he hI
                        · refine r_iconst (pc := 596) (v := 1) dL_best_596 (by decide) ?_
                          refine r_goto (pc := 597) (tgt := 601) dL_best_597 (by decide) ?_
                          exact r_zretA dL_best_601 rfl h he hI
                refine r_if_eq (pc := 491) (tgt := 544) dL_best_491 (by decide) h (fun h => ?_) (fun h => ?_)
                · refine r_iconst (pc := 544) (v := 0) dL_best_544 (by decide) ?_
                  exact r_mask [true, true, false, false, false, false, false, false, false, false, false, true, false] rfl (hJ68 _ _ h _ hI)
                · refine r_aload_n (pc := 494) dL_best_494 rfl rfl ?_
                  refine r_aload_n (pc := 495) dL_best_495 rfl rfl ?_
                  refine r_iload_n (pc := 496) dL_best_496 rfl rfl ?_
                  obtain ⟨s84, x85, q86, eq86, kq86, h⟩ := gCN_some h
                  refine r_callA (pc := 497) [.ref _, .ref _, .int _] (taL_waits _ hlt _ _ hF _ _ _ _ _ q86 h1 h2) cd_L_waits wL_242 nm_L_waits rfl (by rw [hRm]; decide) rfl (Nat.le_of_ble_eq_true rfl) dL_best_497 hB eq86 kq86 hI (fun _ hI => ?_)
                  refine r_if_eq (pc := 500) (tgt := 544) dL_best_500 (by decide) h (fun h => ?_) (fun h => ?_)
                  · refine r_iconst (pc := 544) (v := 0) dL_best_544 (by decide) ?_
                    exact r_mask [true, true, false, false, false, false, false, false, false, false, false, true, false] rfl (hJ68 _ _ h _ hI)
                  · refine r_aload_n (pc := 503) dL_best_503 rfl rfl ?_
                    refine r_iconst (pc := 504) (v := 2) dL_best_504 (by decide) ?_
                    refine r_bipush (pc := 505) (v := 11) dL_best_505 (by decide) ?_
                    refine r_iconst (pc := 507) (v := 0) dL_best_507 (by decide) ?_
                    refine r_iconst (pc := 508) (v := 0) dL_best_508 (by decide) ?_
                    obtain ⟨s87, x88, q89, eq89, kq89, h⟩ := gCN_some h
                    refine r_callA (pc := 509) [.ref _, .int _, .int _, .int _, .int _] (taL_call _ hlt _ _ hF _ _ _ _ _ _ _ q89 h1) cd_L_call wL_190 nm_L_call rfl (by rw [hRm]; decide) rfl (Nat.le_of_ble_eq_true rfl) dL_best_509 hB eq89 kq89 hI (fun _ hI => ?_)
                    refine r_iload (pc := 512) dL_best_512 rfl ?_
                    refine r_icmp_ne (pc := 514) (tgt := 544) dL_best_514 (by decide) h (fun h => ?_) (fun h => ?_)
                    · refine r_iconst (pc := 544) (v := 0) dL_best_544 (by decide) ?_
                      exact r_mask [true, true, false, false, false, false, false, false, false, false, false, true, false] rfl (hJ68 _ _ h _ hI)
                    · refine r_aload_n (pc := 517) dL_best_517 rfl rfl ?_
                      refine r_aload_n (pc := 518) dL_best_518 rfl rfl ?_
                      refine r_iload_n (pc := 519) dL_best_519 rfl rfl ?_
                      obtain ⟨s90, x91, q92, eq92, kq92, h⟩ := gCN_some h
                      refine r_callA (pc := 520) [.ref _, .ref _, .int _] (taL_undoes _ hlt _ _ hF _ _ _ _ _ q92 h1 h2) cd_L_undoes wL_245 nm_L_undoes rfl (by rw [hRm]; decide) rfl (Nat.le_of_ble_eq_true rfl) dL_best_520 hB eq92 kq92 hI (fun _ hI => ?_)
                      refine r_if_eq (pc := 523) (tgt := 544) dL_best_523 (by decide) h (fun h => ?_) (fun h => ?_)
                      · refine r_iconst (pc := 544) (v := 0) dL_best_544 (by decide) ?_
                        exact r_mask [true, true, false, false, false, false, false, false, false, false, false, true, false] rfl (hJ68 _ _ h _ hI)
                      · refine r_aload_n (pc := 526) dL_best_526 rfl rfl ?_
                        refine r_bipush (pc := 527) (v := 20) dL_best_527 (by decide) ?_
                        refine r_iload_n (pc := 529) dL_best_529 rfl rfl ?_
                        refine r_iconst (pc := 530) (v := 0) dL_best_530 (by decide) ?_
                        refine r_iconst (pc := 531) (v := 0) dL_best_531 (by decide) ?_
                        obtain ⟨s93, x94, q95, eq95, kq95, h⟩ := gCN_some h
                        refine r_callA (pc := 532) [.ref _, .int _, .int _, .int _, .int _] (taL_call _ hlt _ _ hF _ _ _ _ _ _ _ q95 h1) cd_L_call wL_190 nm_L_call rfl (by rw [hRm]; decide) rfl (Nat.le_of_ble_eq_true rfl) dL_best_532 hB eq95 kq95 hI (fun _ hI => ?_)
                        refine r_iload (pc := 535) dL_best_535 rfl ?_
                        refine r_icmp_ne (pc := 537) (tgt := 544) dL_best_537 (by decide) h (fun h => ?_) (fun h => ?_)
                        · refine r_iconst (pc := 544) (v := 0) dL_best_544 (by decide) ?_
                          exact r_mask [true, true, false, false, false, false, false, false, false, false, false, true, false] rfl (hJ68 _ _ h _ hI)
                        · refine r_iconst (pc := 540) (v := 1) dL_best_540 (by decide) ?_
                          refine r_goto (pc := 541) (tgt := 545) dL_best_541 (by decide) ?_
                          exact r_mask [true, true, false, false, false, false, false, false, false, false, false, true, false] rfl (hJ68 _ _ h _ hI)
              have L108 : ∀ (n106 : Nat) (v109 : Int32) (v110 : Int32) (m111 : gS × Nat), fL_best_L433 a1 a2 x1 x49 x52 k60 n106 v109 v110 m111 = some o → AL gI2 Y cL_best RL 433 [some (.ref a1), some (.ref a2), none, some (.int x1), none, none, some (.int v109), none, none, none, some (.int x49), some (.int x52), some (.int v110)] [] m111 := by
                intro n106
                induction n106 with
                | zero =>
                  intro v109 v110 m111 h
                  exact absurd h (by simp [fL_best_L433])
                | succ n106 ih107 =>
                  intro v109 v110 m111 h
                  rw [fL_best_L433] at h
                  intro _ hI
                  refine r_iload (pc := 433) dL_best_433 rfl ?_
                  refine r_aload_n (pc := 435) dL_best_435 rfl rfl ?_
                  refine r_iconst (pc := 436) (v := 2) dL_best_436 (by decide) ?_
                  refine r_iconst (pc := 437) (v := 0) dL_best_437 (by decide) ?_
                  refine r_iconst (pc := 438) (v := 0) dL_best_438 (by decide) ?_
                  refine r_iconst (pc := 439) (v := 0) dL_best_439 (by decide) ?_
                  obtain ⟨s112, x113, q114, eq114, kq114, h⟩ := gCN_some h
                  refine r_callA (pc := 440) [.ref _, .int _, .int _, .int _, .int _] (taL_call _ hlt _ _ hF _ _ _ _ _ _ _ q114 h1) cd_L_call wL_190 nm_L_call rfl (by rw [hRm]; decide) rfl (Nat.le_of_ble_eq_true rfl) dL_best_440 hB eq114 kq114 hI (fun _ hI => ?_)
                  refine r_icmp_ge (pc := 443) (tgt := 478) dL_best_443 (by decide) h (fun h => ?_) (fun h => ?_)
                  · exact r_mask [true, true, false, true, false, false, true, false, false, false, true, true, false] rfl (hJ61 _ _ h _ hI)
                  · refine r_iload (pc := 446) dL_best_446 rfl ?_
                    refine r_if_eq (pc := 448) (tgt := 478) dL_best_448 (by decide) h (fun h => ?_) (fun h => ?_)
                    · exact r_mask [true, true, false, true, false, false, true, false, false, false, true, true, false] rfl (hJ61 _ _ h _ hI)
                    · refine r_aload_n (pc := 451) dL_best_451 rfl rfl ?_
                      refine r_bipush (pc := 452) (v := 17) dL_best_452 (by decide) ?_
                      refine r_iload (pc := 454) dL_best_454 rfl ?_
                      refine r_iconst (pc := 456) (v := 0) dL_best_456 (by decide) ?_
                      refine r_iconst (pc := 457) (v := 0) dL_best_457 (by decide) ?_
                      obtain ⟨s115, x116, q117, eq117, kq117, h⟩ := gCN_some h
                      refine r_callA (pc := 458) [.ref _, .int _, .int _, .int _, .int _] (taL_call _ hlt _ _ hF _ _ _ _ _ _ _ q117 h1) cd_L_call wL_190 nm_L_call rfl (by rw [hRm]; decide) rfl (Nat.le_of_ble_eq_true rfl) dL_best_458 hB eq117 kq117 hI (fun _ hI => ?_)
                      refine r_iconst (pc := 461) (v := 4) dL_best_461 (by decide) ?_
                      refine r_jn1 h (fun x118 => AL gI2 Y cL_best RL 470 [some (.ref a1), some (.ref a2), none, some (.int x1), none, none, none, none, none, none, some (.int x49), some (.int x52), some (.int v110)] [.int x118] s115) (fun x118 h => ?_) (fun hJ119 => ?_)
                      · intro _ hI
                        refine r_istore (pc := 470) dL_best_470 (by rw [gYn_nL, hnL]; decide) rfl ?_
                        refine r_iinc (pc := 472) (d := 1) dL_best_472 rfl (by decide) (by rw [gYn_nL, hnL]; decide) h (fun x121 h => ?_)
                        refine r_goto (pc := 475) (tgt := 433) dL_best_475 (by decide) ?_
                        exact r_mask [true, true, false, true, false, false, true, false, false, false, true, true, true] rfl (ih107 _ _ _ h _ hI)
                      · refine r_icmpC_ge (pc := 462) (tgt := 469) dL_best_462 (by decide) (fun g120 => ?_) (fun g120 => ?_)
                        · refine r_iconst (pc := 469) (v := 0) dL_best_469 (by decide) ?_
                          exact r_mask [true, true, false, true, false, false, false, false, false, false, true, true, true] rfl (hJ119 _ (by rw [if_pos g120]) _ hI)
                        · refine r_iconst (pc := 465) (v := 1) dL_best_465 (by decide) ?_
                          refine r_goto (pc := 466) (tgt := 470) dL_best_466 (by decide) ?_
                          exact r_mask [true, true, false, true, false, false, false, false, false, false, true, true, true] rfl (hJ119 _ (by rw [if_neg g120]) _ hI)
              exact r_mask [true, true, false, true, false, false, true, false, false, false, true, true, true] rfl (L108 _ _ _ _ h _ hI)
            refine r_if_eq (pc := 393) (tgt := 427) dL_best_393 (by decide) h (fun h => ?_) (fun h => ?_)
            · refine r_iconst (pc := 427) (v := 0) dL_best_427 (by decide) ?_
              exact r_mask [true, true, false, true, false, false, false, false, false, false, true, true, false] rfl (hJ57 _ _ h _ hI)
            · refine r_aload_n (pc := 396) dL_best_396 rfl rfl ?_
              refine r_bipush (pc := 397) (v := 14) dL_best_397 (by decide) ?_
              refine r_iconst (pc := 399) (v := 0) dL_best_399 (by decide) ?_
              refine r_iload (pc := 400) dL_best_400 rfl ?_
              refine r_iconst (pc := 402) (v := 0) dL_best_402 (by decide) ?_
              obtain ⟨s122, x123, q124, eq124, kq124, h⟩ := gCN_some h
              refine r_callA (pc := 403) [.ref _, .int _, .int _, .int _, .int _] (taL_call _ hlt _ _ hF _ _ _ _ _ _ _ q124 h2) cd_L_call wL_190 nm_L_call rfl (by rw [hRm]; decide) rfl (Nat.le_of_ble_eq_true rfl) dL_best_403 hB eq124 kq124 hI (fun _ hI => ?_)
              refine r_iload (pc := 406) dL_best_406 rfl ?_
              refine r_icmp_ne (pc := 408) (tgt := 427) dL_best_408 (by decide) h (fun h => ?_) (fun h => ?_)
              · refine r_iconst (pc := 427) (v := 0) dL_best_427 (by decide) ?_
                exact r_mask [true, true, false, true, false, false, false, false, false, false, true, true, false] rfl (hJ57 _ _ h _ hI)
              · refine r_iload (pc := 411) dL_best_411 rfl ?_
                refine r_if_lt (pc := 413) (tgt := 427) dL_best_413 (by decide) h (fun h => ?_) (fun h => ?_)
                · refine r_iconst (pc := 427) (v := 0) dL_best_427 (by decide) ?_
                  exact r_mask [true, true, false, true, false, false, false, false, false, false, true, true, false] rfl (hJ57 _ _ h _ hI)
                · refine r_iload (pc := 416) dL_best_416 rfl ?_
                  refine r_bipush (pc := 418) (v := 90) dL_best_418 (by decide) ?_
                  refine r_icmp_gt (pc := 420) (tgt := 427) dL_best_420 (by decide) h (fun h => ?_) (fun h => ?_)
                  · refine r_iconst (pc := 427) (v := 0) dL_best_427 (by decide) ?_
                    exact r_mask [true, true, false, true, false, false, false, false, false, false, true, true, false] rfl (hJ57 _ _ h _ hI)
                  · refine r_iconst (pc := 423) (v := 1) dL_best_423 (by decide) ?_
                    refine r_goto (pc := 424) (tgt := 428) dL_best_424 (by decide) ?_
                    exact r_mask [true, true, false, true, false, false, false, false, false, false, true, true, false] rfl (hJ57 _ _ h _ hI)
          have L144 : ∀ (n142 : Nat) (v145 : Int32) (v146 : Int32) (m147 : gS × Nat), fL_best_L313 a1 a2 x1 x29 k46 n142 v145 v146 m147 = some o → AL gI2 Y cL_best RL 313 [some (.ref a1), some (.ref a2), none, some (.int x1), none, none, some (.int v145), none, some (.int x29), none, some (.int v146), none, none] [] m147 := by
            intro n142
            induction n142 with
            | zero =>
              intro v145 v146 m147 h
              exact absurd h (by simp [fL_best_L313])
            | succ n142 ih143 =>
              intro v145 v146 m147 h
              rw [fL_best_L313] at h
              intro _ hI
              refine r_iload (pc := 313) dL_best_313 rfl ?_
              refine r_iload (pc := 315) dL_best_315 rfl ?_
              refine r_icmp_ge (pc := 317) (tgt := 368) dL_best_317 (by decide) h (fun h => ?_) (fun h => ?_)
              · exact r_mask [true, true, false, true, false, false, true, false, false, false, false, false, false] rfl (hJ47 _ _ h _ hI)
              · refine r_iload (pc := 320) dL_best_320 rfl ?_
                refine r_if_eq (pc := 322) (tgt := 368) dL_best_322 (by decide) h (fun h => ?_) (fun h => ?_)
                · exact r_mask [true, true, false, true, false, false, true, false, false, false, false, false, false] rfl (hJ47 _ _ h _ hI)
                · refine r_aload_n (pc := 325) dL_best_325 rfl rfl ?_
                  refine r_bipush (pc := 326) (v := 16) dL_best_326 (by decide) ?_
                  refine r_iconst (pc := 328) (v := 0) dL_best_328 (by decide) ?_
                  refine r_iconst (pc := 329) (v := 0) dL_best_329 (by decide) ?_
                  refine r_iconst (pc := 330) (v := 0) dL_best_330 (by decide) ?_
                  obtain ⟨s148, x149, q150, eq150, kq150, h⟩ := gCN_some h
                  refine r_callA (pc := 331) [.ref _, .int _, .int _, .int _, .int _] (taL_call _ hlt _ _ hF _ _ _ _ _ _ _ q150 h1) cd_L_call wL_190 nm_L_call rfl (by rw [hRm]; decide) rfl (Nat.le_of_ble_eq_true rfl) dL_best_331 hB eq150 kq150 hI (fun _ hI => ?_)
                  obtain ⟨s151, x152, q153, eq153, kq153, h⟩ := gCN_some h
                  refine r_callA (pc := 334) [.int _] (taL_thrown _ hlt _ _ hF _ _ _ q153) cd_L_thrown wL_238 nm_L_thrown rfl (by rw [hRm]; decide) rfl (Nat.le_of_ble_eq_true rfl) dL_best_334 hB eq153 kq153 hI (fun _ hI => ?_)
                  refine r_if_ne (pc := 337) (tgt := 359) dL_best_337 (by decide) h (fun h => ?_) (fun h => ?_)
                  · refine r_iconst (pc := 359) (v := 0) dL_best_359 (by decide) ?_
                    refine r_istore (pc := 360) dL_best_360 (by rw [gYn_nL, hnL]; decide) rfl ?_
                    refine r_iinc (pc := 362) (d := 1) dL_best_362 rfl (by decide) (by rw [gYn_nL, hnL]; decide) h (fun x154 h => ?_)
                    refine r_goto (pc := 365) (tgt := 313) dL_best_365 (by decide) ?_
                    exact r_mask [true, true, false, true, false, false, true, false, true, false, true, false, false] rfl (ih143 _ _ _ h _ hI)
                  · refine r_aload_n (pc := 340) dL_best_340 rfl rfl ?_
                    refine r_bipush (pc := 341) (v := 16) dL_best_341 (by decide) ?_
                    refine r_iconst (pc := 343) (v := 0) dL_best_343 (by decide) ?_
                    refine r_iconst (pc := 344) (v := 0) dL_best_344 (by decide) ?_
                    refine r_iconst (pc := 345) (v := 0) dL_best_345 (by decide) ?_
                    obtain ⟨s155, x156, q157, eq157, kq157, h⟩ := gCN_some h
                    refine r_callA (pc := 346) [.ref _, .int _, .int _, .int _, .int _] (taL_call _ hlt _ _ hF _ _ _ _ _ _ _ q157 h2) cd_L_call wL_190 nm_L_call rfl (by rw [hRm]; decide) rfl (Nat.le_of_ble_eq_true rfl) dL_best_346 hB eq157 kq157 hI (fun _ hI => ?_)
                    obtain ⟨s158, x159, q160, eq160, kq160, h⟩ := gCN_some h
                    refine r_callA (pc := 349) [.int _] (taL_thrown _ hlt _ _ hF _ _ _ q160) cd_L_thrown wL_238 nm_L_thrown rfl (by rw [hRm]; decide) rfl (Nat.le_of_ble_eq_true rfl) dL_best_349 hB eq160 kq160 hI (fun _ hI => ?_)
                    refine r_jn1 h (fun x161 => AL gI2 Y cL_best RL 360 [some (.ref a1), some (.ref a2), none, some (.int x1), none, none, none, none, some (.int x29), none, some (.int v146), none, none] [.int x161] s158) (fun x161 h => ?_) (fun hJ162 => ?_)
                    · intro _ hI
                      refine r_istore (pc := 360) dL_best_360 (by rw [gYn_nL, hnL]; decide) rfl ?_
                      refine r_iinc (pc := 362) (d := 1) dL_best_362 rfl (by decide) (by rw [gYn_nL, hnL]; decide) h (fun x164 h => ?_)
                      refine r_goto (pc := 365) (tgt := 313) dL_best_365 (by decide) ?_
                      exact r_mask [true, true, false, true, false, false, true, false, true, false, true, false, false] rfl (ih143 _ _ _ h _ hI)
                    · refine r_ifC_ne (pc := 352) (tgt := 359) dL_best_352 (by decide) (fun g163 => ?_) (fun g163 => ?_)
                      · refine r_iconst (pc := 359) (v := 0) dL_best_359 (by decide) ?_
                        exact r_mask [true, true, false, true, false, false, false, false, true, false, true, false, false] rfl (hJ162 _ (by rw [if_neg g163]) _ hI)
                      · refine r_iconst (pc := 355) (v := 1) dL_best_355 (by decide) ?_
                        refine r_goto (pc := 356) (tgt := 360) dL_best_356 (by decide) ?_
                        exact r_mask [true, true, false, true, false, false, false, false, true, false, true, false, false] rfl (hJ162 _ (by rw [if_pos g163]) _ hI)
          exact r_mask [true, true, false, true, false, false, true, false, true, false, true, false, false] rfl (L144 _ _ _ _ h _ hI)
        refine r_if_eq (pc := 270) (tgt := 307) dL_best_270 (by decide) h (fun h => ?_) (fun h => ?_)
        · refine r_iconst (pc := 307) (v := 0) dL_best_307 (by decide) ?_
          exact r_mask [true, true, false, true, false, false, false, false, true, false, false, false, false] rfl (hJ43 _ _ h _ hI)
        · refine r_iload (pc := 273) dL_best_273 rfl ?_
          refine r_iload (pc := 275) dL_best_275 rfl ?_
          refine r_jnK h (fun (k166 : gS × Nat → Option (gS × Int32)) => ∀ (s165 : gS × Nat), k166 s165 = some o → AL gI2 Y cL_best RL 294 [some (.ref a1), some (.ref a2), none, some (.int x1), none, none, none, none, some (.int x29), none, none, none, none] [] s165) (fun s165 h => ?_) (fun k166 hJ167 h => ?_)
          · intro _ hI
            refine r_aload_n (pc := 294) dL_best_294 rfl rfl ?_
            refine r_aload_n (pc := 295) dL_best_295 rfl rfl ?_
            refine r_iload_n (pc := 296) dL_best_296 rfl rfl ?_
            obtain ⟨s168, x169, q170, eq170, kq170, h⟩ := gCN_some h
            refine r_callA (pc := 297) [.ref _, .ref _, .int _] (taL_undoes _ hlt _ _ hF _ _ _ _ _ q170 h1 h2) cd_L_undoes wL_245 nm_L_undoes rfl (by rw [hRm]; decide) rfl (Nat.le_of_ble_eq_true rfl) dL_best_297 hB eq170 kq170 hI (fun _ hI => ?_)
            refine r_if_eq (pc := 300) (tgt := 307) dL_best_300 (by decide) h (fun h => ?_) (fun h => ?_)
            · refine r_iconst (pc := 307) (v := 0) dL_best_307 (by decide) ?_
              exact r_mask [true, true, false, true, false, false, false, false, true, false, false, false, false] rfl (hJ43 _ _ h _ hI)
            · refine r_iconst (pc := 303) (v := 1) dL_best_303 (by decide) ?_
              refine r_goto (pc := 304) (tgt := 308) dL_best_304 (by decide) ?_
              exact r_mask [true, true, false, true, false, false, false, false, true, false, false, false, false] rfl (hJ43 _ _ h _ hI)
          refine r_icmp_lt (pc := 277) (tgt := 294) dL_best_277 (by decide) h (fun h => ?_) (fun h => ?_)
          · exact r_mask [true, true, false, true, false, false, false, false, true, false, false, false, false] rfl (hJ167 _ h _ hI)
          · refine r_iload (pc := 280) dL_best_280 rfl ?_
            refine r_iload (pc := 282) dL_best_282 rfl ?_
            refine r_icmp_ne (pc := 284) (tgt := 307) dL_best_284 (by decide) h (fun h => ?_) (fun h => ?_)
            · refine r_iconst (pc := 307) (v := 0) dL_best_307 (by decide) ?_
              exact r_mask [true, true, false, true, false, false, false, false, true, false, false, false, false] rfl (hJ43 _ _ h _ hI)
            · refine r_iload (pc := 287) dL_best_287 rfl ?_
              refine r_iload (pc := 289) dL_best_289 rfl ?_
              refine r_icmp_gt (pc := 291) (tgt := 307) dL_best_291 (by decide) h (fun h => ?_) (fun h => ?_)
              · refine r_iconst (pc := 307) (v := 0) dL_best_307 (by decide) ?_
                exact r_mask [true, true, false, true, false, false, false, false, true, false, false, false, false] rfl (hJ43 _ _ h _ hI)
              · exact r_mask [true, true, false, true, false, false, false, false, true, false, false, false, false] rfl (hJ167 _ h _ hI)
      refine r_if_eq (pc := 229) (tgt := 254) dL_best_229 (by decide) h (fun h => ?_) (fun h => ?_)
      · refine r_iconst (pc := 254) (v := 0) dL_best_254 (by decide) ?_
        exact r_mask [true, true, false, true, true, true, false, true, true, false, false, false, false] rfl (hJ36 _ _ h _ hI)
      · refine r_aload_n (pc := 232) dL_best_232 rfl rfl ?_
        refine r_iload (pc := 233) dL_best_233 rfl ?_
        obtain ⟨s171, x172, q173, eq173, kq173, h⟩ := gCN_some h
        refine r_callA (pc := 235) [.ref _, .int _] (taL_isOrder _ hlt _ _ hF _ _ _ _ q173 h1) cd_L_isOrder wL_248 nm_L_isOrder rfl (by rw [hRm]; decide) rfl (Nat.le_of_ble_eq_true rfl) dL_best_235 hB eq173 kq173 hI (fun _ hI => ?_)
        refine r_if_eq (pc := 238) (tgt := 254) dL_best_238 (by decide) h (fun h => ?_) (fun h => ?_)
        · refine r_iconst (pc := 254) (v := 0) dL_best_254 (by decide) ?_
          exact r_mask [true, true, false, true, true, true, false, true, true, false, false, false, false] rfl (hJ36 _ _ h _ hI)
        · refine r_aload_n (pc := 241) dL_best_241 rfl rfl ?_
          refine r_aload_n (pc := 242) dL_best_242 rfl rfl ?_
          refine r_iload_n (pc := 243) dL_best_243 rfl rfl ?_
          obtain ⟨s174, x175, q176, eq176, kq176, h⟩ := gCN_some h
          refine r_callA (pc := 244) [.ref _, .ref _, .int _] (taL_waits _ hlt _ _ hF _ _ _ _ _ q176 h1 h2) cd_L_waits wL_242 nm_L_waits rfl (by rw [hRm]; decide) rfl (Nat.le_of_ble_eq_true rfl) dL_best_244 hB eq176 kq176 hI (fun _ hI => ?_)
          refine r_if_eq (pc := 247) (tgt := 254) dL_best_247 (by decide) h (fun h => ?_) (fun h => ?_)
          · refine r_iconst (pc := 254) (v := 0) dL_best_254 (by decide) ?_
            exact r_mask [true, true, false, true, true, true, false, true, true, false, false, false, false] rfl (hJ36 _ _ h _ hI)
          · refine r_iconst (pc := 250) (v := 1) dL_best_250 (by decide) ?_
            refine r_goto (pc := 251) (tgt := 255) dL_best_251 (by decide) ?_
            exact r_mask [true, true, false, true, true, true, false, true, true, false, false, false, false] rfl (hJ36 _ _ h _ hI)
    have L201 : ∀ (n199 : Nat) (v202 : Int32) (v203 : Int32) (v204 : Int32) (m205 : gS × Nat), fL_best_L115 a1 a2 x1 x3 x17 x22 k31 n199 v202 v203 v204 m205 = some o → AL gI2 Y cL_best RL 115 [some (.ref a1), some (.ref a2), none, some (.int x1), some (.int x3), some (.int x17), some (.int v202), some (.int x22), some (.int v203), some (.int v204), none, none, none] [] m205 := by
      intro n199
      induction n199 with
      | zero =>
        intro v202 v203 v204 m205 h
        exact absurd h (by simp [fL_best_L115])
      | succ n199 ih200 =>
        intro v202 v203 v204 m205 h
        rw [fL_best_L115] at h
        intro _ hI
        refine r_iload (pc := 115) dL_best_115 rfl ?_
        refine r_iconst (pc := 117) (v := 3) dL_best_117 (by decide) ?_
        refine r_icmp_ge (pc := 118) (tgt := 227) dL_best_118 (by decide) h (fun h => ?_) (fun h => ?_)
        · exact r_mask [true, true, false, true, true, true, true, true, true, false, false, false, false] rfl (hJ32 _ _ _ h _ hI)
        · refine r_iload (pc := 121) dL_best_121 rfl ?_
          refine r_if_eq (pc := 123) (tgt := 227) dL_best_123 (by decide) h (fun h => ?_) (fun h => ?_)
          · exact r_mask [true, true, false, true, true, true, true, true, true, false, false, false, false] rfl (hJ32 _ _ _ h _ hI)
          · refine r_iload (pc := 126) dL_best_126 rfl ?_
            refine r_jn1 h (fun x206 => AL gI2 Y cL_best RL 165 [some (.ref a1), some (.ref a2), none, some (.int x1), some (.int x3), some (.int x17), none, some (.int x22), some (.int v203), some (.int v204), none, none, none] [.int x206] m205) (fun x206 h => ?_) (fun hJ207 => ?_)
            · intro _ hI
              refine r_istore (pc := 165) dL_best_165 (by rw [gYn_nL, hnL]; decide) rfl ?_
              refine r_aload_n (pc := 167) dL_best_167 rfl rfl ?_
              refine r_bipush (pc := 168) (v := 13) dL_best_168 (by decide) ?_
              refine r_aload_n (pc := 170) dL_best_170 rfl rfl ?_
              refine r_bipush (pc := 171) (v := 7) dL_best_171 (by decide) ?_
              refine r_iload (pc := 173) dL_best_173 rfl ?_
              refine r_iconst (pc := 175) (v := 0) dL_best_175 (by decide) ?_
              refine r_iconst (pc := 176) (v := 0) dL_best_176 (by decide) ?_
              obtain ⟨s210, x211, q212, eq212, kq212, h⟩ := gCN_some h
              refine r_callA (pc := 177) [.ref _, .int _, .int _, .int _, .int _] (taL_call _ hlt _ _ hF _ _ _ _ _ _ _ q212 h1) cd_L_call wL_190 nm_L_call rfl (by rw [hRm]; decide) rfl (Nat.le_of_ble_eq_true rfl) dL_best_177 hB eq212 kq212 hI (fun _ hI => ?_)
              refine r_iload (pc := 180) dL_best_180 rfl ?_
              refine r_iconst (pc := 182) (v := 0) dL_best_182 (by decide) ?_
              obtain ⟨s213, x214, q215, eq215, kq215, h⟩ := gCN_some h
              refine r_callA (pc := 183) [.ref _, .int _, .int _, .int _, .int _] (taL_call _ hlt _ _ hF _ _ _ _ _ _ _ q215 h1) cd_L_call wL_190 nm_L_call rfl (by rw [hRm]; decide) rfl (Nat.le_of_ble_eq_true rfl) dL_best_183 hB eq215 kq215 hI (fun _ hI => ?_)
              refine r_jnK h (fun (k218 : Int32 → gS × Nat → Option (gS × Int32)) => ∀ (x216 : Int32) (s217 : gS × Nat), k218 x216 s217 = some o → AL gI2 Y cL_best RL 216 [some (.ref a1), some (.ref a2), none, some (.int x1), some (.int x3), some (.int x17), none, some (.int x22), some (.int v203), some (.int v204), none, none, none] [.int x216] s217) (fun x216 s217 h => ?_) (fun k218 hJ219 h => ?_)
              · intro _ hI
                refine r_istore (pc := 216) dL_best_216 (by rw [gYn_nL, hnL]; decide) rfl ?_
                refine r_iinc (pc := 218) (d := 1) dL_best_218 rfl (by decide) (by rw [gYn_nL, hnL]; decide) h (fun x220 h => ?_)
                refine r_iinc (pc := 221) (d := 1) dL_best_221 rfl (by decide) (by rw [gYn_nL, hnL]; decide) h (fun x221 h => ?_)
                refine r_goto (pc := 224) (tgt := 115) dL_best_224 (by decide) ?_
                exact r_mask [true, true, false, true, true, true, true, true, true, true, false, false, false] rfl (ih200 _ _ _ _ h _ hI)
              refine r_if_lt (pc := 186) (tgt := 215) dL_best_186 (by decide) h (fun h => ?_) (fun h => ?_)
              · refine r_iconst (pc := 215) (v := 0) dL_best_215 (by decide) ?_
                exact r_mask [true, true, false, true, true, true, false, true, true, true, false, false, false] rfl (hJ219 _ _ h _ hI)
              · refine r_aload_n (pc := 189) dL_best_189 rfl rfl ?_
                refine r_bipush (pc := 190) (v := 13) dL_best_190 (by decide) ?_
                refine r_aload_n (pc := 192) dL_best_192 rfl rfl ?_
                refine r_bipush (pc := 193) (v := 7) dL_best_193 (by decide) ?_
                refine r_iload (pc := 195) dL_best_195 rfl ?_
                refine r_iconst (pc := 197) (v := 0) dL_best_197 (by decide) ?_
                refine r_iconst (pc := 198) (v := 0) dL_best_198 (by decide) ?_
                obtain ⟨s222, x223, q224, eq224, kq224, h⟩ := gCN_some h
                refine r_callA (pc := 199) [.ref _, .int _, .int _, .int _, .int _] (taL_call _ hlt _ _ hF _ _ _ _ _ _ _ q224 h2) cd_L_call wL_190 nm_L_call rfl (by rw [hRm]; decide) rfl (Nat.le_of_ble_eq_true rfl) dL_best_199 hB eq224 kq224 hI (fun _ hI => ?_)
                refine r_iload (pc := 202) dL_best_202 rfl ?_
                refine r_iconst (pc := 204) (v := 0) dL_best_204 (by decide) ?_
                obtain ⟨s225, x226, q227, eq227, kq227, h⟩ := gCN_some h
                refine r_callA (pc := 205) [.ref _, .int _, .int _, .int _, .int _] (taL_call _ hlt _ _ hF _ _ _ _ _ _ _ q227 h2) cd_L_call wL_190 nm_L_call rfl (by rw [hRm]; decide) rfl (Nat.le_of_ble_eq_true rfl) dL_best_205 hB eq227 kq227 hI (fun _ hI => ?_)
                refine r_if_lt (pc := 208) (tgt := 215) dL_best_208 (by decide) h (fun h => ?_) (fun h => ?_)
                · refine r_iconst (pc := 215) (v := 0) dL_best_215 (by decide) ?_
                  exact r_mask [true, true, false, true, true, true, false, true, true, true, false, false, false] rfl (hJ219 _ _ h _ hI)
                · refine r_iconst (pc := 211) (v := 1) dL_best_211 (by decide) ?_
                  refine r_goto (pc := 212) (tgt := 216) dL_best_212 (by decide) ?_
                  exact r_mask [true, true, false, true, true, true, false, true, true, true, false, false, false] rfl (hJ219 _ _ h _ hI)
            · refine r_ifC_ne (pc := 128) (tgt := 140) dL_best_128 (by decide) (fun g208 => ?_) (fun g208 => ?_)
              · refine r_iload (pc := 140) dL_best_140 rfl ?_
                refine r_iconst (pc := 142) (v := 1) dL_best_142 (by decide) ?_
                refine r_icmpC_ne (pc := 143) (tgt := 157) dL_best_143 (by decide) (fun g209 => ?_) (fun g209 => ?_)
                · refine r_iload (pc := 157) dL_best_157 rfl ?_
                  refine r_bipush (pc := 159) (v := 10) dL_best_159 (by decide) ?_
                  refine r_idivc (pc := 161) dL_best_161 (by decide) ?_
                  refine r_bipush (pc := 162) (v := 10) dL_best_162 (by decide) ?_
                  refine r_iremc (pc := 164) dL_best_164 (by decide) ?_
                  exact r_mask [true, true, false, true, true, true, false, true, true, true, false, false, false] rfl (hJ207 _ (by rw [if_neg g208, if_neg g209]) _ hI)
                · refine r_iload (pc := 146) dL_best_146 rfl ?_
                  refine r_bipush (pc := 148) (v := 100) dL_best_148 (by decide) ?_
                  refine r_idivc (pc := 150) dL_best_150 (by decide) ?_
                  refine r_bipush (pc := 151) (v := 10) dL_best_151 (by decide) ?_
                  refine r_iremc (pc := 153) dL_best_153 (by decide) ?_
                  refine r_goto (pc := 154) (tgt := 165) dL_best_154 (by decide) ?_
                  exact r_mask [true, true, false, true, true, true, false, true, true, true, false, false, false] rfl (hJ207 _ (by rw [if_neg g208, if_pos g209]) _ hI)
              · refine r_iload (pc := 131) dL_best_131 rfl ?_
                refine r_sipush (pc := 133) (v := 1000) dL_best_133 (by decide) ?_
                refine r_idivc (pc := 136) dL_best_136 (by decide) ?_
                refine r_goto (pc := 137) (tgt := 165) dL_best_137 (by decide) ?_
                exact r_mask [true, true, false, true, true, true, false, true, true, true, false, false, false] rfl (hJ207 _ (by rw [if_pos g208]) _ hI)
    exact r_mask [true, true, false, true, true, true, true, true, true, true, false, false, false] rfl (L201 _ _ _ _ _ h _ hI)
  refine r_if_eq (pc := 90) (tgt := 106) dL_best_90 (by decide) h (fun h => ?_) (fun h => ?_)
  · refine r_iconst (pc := 106) (v := 0) dL_best_106 (by decide) ?_
    exact r_mask [true, true, false, true, true, true, false, true, false, false, false, false, false] rfl (hJ27 _ _ h _ hI)
  · refine r_aload_n (pc := 93) dL_best_93 rfl rfl ?_
    refine r_aload_n (pc := 94) dL_best_94 rfl rfl ?_
    refine r_iload_n (pc := 95) dL_best_95 rfl rfl ?_
    obtain ⟨s228, x229, q230, eq230, kq230, h⟩ := gCN_some h
    refine r_callA (pc := 96) [.ref _, .ref _, .int _] (taL_undoes _ hlt _ _ hF _ _ _ _ _ q230 h1 h2) cd_L_undoes wL_245 nm_L_undoes rfl (by rw [hRm]; decide) rfl (Nat.le_of_ble_eq_true rfl) dL_best_96 hB eq230 kq230 hI (fun _ hI => ?_)
    refine r_if_eq (pc := 99) (tgt := 106) dL_best_99 (by decide) h (fun h => ?_) (fun h => ?_)
    · refine r_iconst (pc := 106) (v := 0) dL_best_106 (by decide) ?_
      exact r_mask [true, true, false, true, true, true, false, true, false, false, false, false, false] rfl (hJ27 _ _ h _ hI)
    · refine r_iconst (pc := 102) (v := 1) dL_best_102 (by decide) ?_
      refine r_goto (pc := 103) (tgt := 107) dL_best_103 (by decide) ?_
      exact r_mask [true, true, false, true, true, true, false, true, false, false, false, false, false] rfl (hJ27 _ _ h _ hI)
