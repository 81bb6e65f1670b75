/-! written by program: methods as functions of the flat memory -/
def fX6_thrown  (m : gM) : Option (gM × Int32) := gLt (m (5693 + 0)) fun x1 => some (m, x1)
abbrev rmX6_thrown : Room := { frames := 0, cells := 0, slots := 0, locals := 0 }
set_option maxHeartbeats 4000000 in
set_option maxRecDepth 100000 in
theorem tX6_thrown (l : Launch) (G : gX) (u : gU) (hF : gFull u)  (m : gM) (o : gM × Int32) (h : fX6_thrown  m = some o)  : gMet l G u yX6_thrown (.code yX6_thrown cX6_thrown 1 (some .int)) rmX6_thrown [.ref 5693] m o.1 (some (.int o.2)) := by
  refine gMet_of (own := RX6) (k := 0) (by decide) rfl ⟨rfl, rfl⟩ (Nat.le_of_ble_eq_true rfl) [some (.ref 5693)] rfl (fun Y hG hu hnL hLn hRm he => ?_)
  subst hG hu hLn
  unfold fX6_thrown at h
  refine r_aload_n (pc := 0) dX6_thrown_0 rfl rfl ?_
  refine fX6_33 (pc := 1) dX6_thrown_1 (gO5 hF) h (fun x1 h => ?_)
  exact r_iretH dX6_thrown_4 h he
def fX6_refused (p1 : Int32) (m : gM) : Option (gM × Int32) := gLt (upd m (5693 + 0) p1) fun m1 => (if p1 ≤ 0 then gRz .boolean 0 (some (m1, 0)) else gRz .boolean 1 (some (m1, 1)))
abbrev rmX6_refused : Room := { frames := 0, cells := 0, slots := 0, locals := 0 }
set_option maxHeartbeats 4000000 in
set_option maxRecDepth 100000 in
theorem tX6_refused (l : Launch) (G : gX) (u : gU) (hF : gFull u) (p1 : Int32) (m : gM) (o : gM × Int32) (h : fX6_refused p1 m = some o)  : gMet l G u yX6_refused (.code yX6_refused cX6_refused 2 (some .boolean)) rmX6_refused [.ref 5693, .int p1] m o.1 (some (.int o.2)) := by
  refine gMet_of (own := RX6) (k := 0) (by decide) rfl ⟨rfl, rfl⟩ (Nat.le_of_ble_eq_true rfl) [some (.ref 5693), some (.int p1)] rfl (fun Y hG hu hnL hLn hRm he => ?_)
  subst hG hu hLn
  unfold fX6_refused at h
  refine r_aload_n (pc := 0) dX6_refused_0 rfl rfl ?_
  refine r_iload_n (pc := 1) dX6_refused_1 rfl rfl ?_
  refine fX6_33p (pc := 2) dX6_refused_2 (gO5 hF) h (fun m1 h => ?_)
  refine r_iload_n (pc := 5) dX6_refused_5 rfl rfl ?_
  refine r_if_le (pc := 6) (tgt := 13) dX6_refused_6 (by decide) h (fun h => ?_) (fun h => ?_)
  · refine r_iconst (pc := 13) (v := 0) dX6_refused_13 (by decide) ?_
    exact r_zretH dX6_refused_14 rfl h he
  · refine r_iconst (pc := 9) (v := 1) dX6_refused_9 (by decide) ?_
    refine r_goto (pc := 10) (tgt := 14) dX6_refused_10 (by decide) ?_
    exact r_zretH dX6_refused_14 rfl h he
def fX6_in (p1 : Int64) (p2 : Int64) (p3 : Int64) (m : gM) : Option (gM × Int32) := (if (lg_cmp p1 p2) < 0 then gRz .boolean 0 (some (m, 0)) else (if 0 < (lg_cmp p1 p3) then gRz .boolean 0 (some (m, 0)) else gRz .boolean 1 (some (m, 1))))
abbrev rmX6_in : Room := { frames := 0, cells := 0, slots := 0, locals := 0 }
set_option maxHeartbeats 4000000 in
set_option maxRecDepth 100000 in
theorem tX6_in (l : Launch) (G : gX) (u : gU) (hF : gFull u) (p1 : Int64) (p2 : Int64) (p3 : Int64) (m : gM) (o : gM × Int32) (h : fX6_in p1 p2 p3 m = some o)  : gMet l G u yX6_in (.code yX6_in cX6_in 6 (some .boolean)) rmX6_in [.long p1, .long p2, .long p3] m o.1 (some (.int o.2)) := by
  refine gMet_of (own := RX6) (k := 0) (by decide) rfl ⟨rfl, rfl⟩ (Nat.le_of_ble_eq_true rfl) [some (.long p1), none, some (.long p2), none, some (.long p3), none] rfl (fun Y hG hu hnL hLn hRm he => ?_)
  subst hG hu hLn
  unfold fX6_in at h
  refine r_lload_n (pc := 0) dX6_in_0 rfl rfl ?_
  refine r_lload_n (pc := 1) dX6_in_1 rfl rfl ?_
  refine r_lcmp (pc := 2) dX6_in_2 ?_
  refine r_if_lt (pc := 3) (tgt := 17) dX6_in_3 (by decide) h (fun h => ?_) (fun h => ?_)
  · refine r_iconst (pc := 17) (v := 0) dX6_in_17 (by decide) ?_
    exact r_zretH dX6_in_18 rfl h he
  · refine r_lload_n (pc := 6) dX6_in_6 rfl rfl ?_
    refine r_lload (pc := 7) dX6_in_7 rfl ?_
    refine r_lcmp (pc := 9) dX6_in_9 ?_
    refine r_if_gt (pc := 10) (tgt := 17) dX6_in_10 (by decide) h (fun h => ?_) (fun h => ?_)
    · refine r_iconst (pc := 17) (v := 0) dX6_in_17 (by decide) ?_
      exact r_zretH dX6_in_18 rfl h he
    · refine r_iconst (pc := 13) (v := 1) dX6_in_13 (by decide) ?_
      refine r_goto (pc := 14) (tgt := 18) dX6_in_14 (by decide) ?_
      exact r_zretH dX6_in_18 rfl h he
def fX6_copyState_L3 (a0 : Nat) (a0n : Nat) (v1 : Int32) (a2 : Nat) (a2n : Nat) (v3 : Int32) : Nat → Int32 → gM → Option (gM)
  | 0, _, _ => none
  | n + 1, v4, m => (if 258 ≤ v4 then some m else gRd m a0 a0n (v1 + v4) fun x1 => gWr m a2 a2n (v3 + v4) x1 fun m2 => gLt (v4 + 1) fun x3 => fX6_copyState_L3 a0 a0n v1 a2 a2n v3 n x3 m2)
def fX6_copyState (a1 a1n : Nat) (p2 : Int32) (a3 a3n : Nat) (p4 : Int32) (m : gM) : Option (gM) := fX6_copyState_L3 a1 a1n p2 a3 a3n p4 gFU 0 m
abbrev rmX6_copyState : Room := { frames := 0, cells := 0, slots := 0, locals := 0 }
set_option maxHeartbeats 4000000 in
set_option maxRecDepth 100000 in
theorem tX6_copyState (l : Launch) (G : gX) (u : gU) (hF : gFull u) (a1 a1n : Nat) (p2 : Int32) (a3 a3n : Nat) (p4 : Int32) (m : gM) (o : gM) (h : fX6_copyState a1 a1n p2 a3 a3n p4 m = some o) (h1 : gIn u a1 7 a1n) (h3 : gIn u a3 7 a3n) : gMet l G u yX6_copyState (.code yX6_copyState cX6_copyState 5 none) rmX6_copyState [.ref a1, .int p2, .ref a3, .int p4] m o none := by
  refine gMet_of (own := RX6) (k := 1) (by decide) rfl ⟨rfl, rfl⟩ (Nat.le_of_ble_eq_true rfl) [some (.ref a1), some (.int p2), some (.ref a3), some (.int p4), none] rfl (fun Y hG hu hnL hLn hRm he => ?_)
  subst hG hu hLn
  unfold fX6_copyState at h
  refine r_iconst (pc := 0) (v := 0) dX6_copyState_0 (by decide) ?_
  refine r_istore (pc := 1) dX6_copyState_1 (by rw [hnL]; decide) rfl ?_
  have L6 : ∀ (n4 : Nat) (v7 : Int32) (m8 : gM), fX6_copyState_L3 a1 a1n p2 a3 a3n p4 n4 v7 m8 = some o → AW Y cX6_copyState RX6 3 [some (.ref a1), some (.int p2), some (.ref a3), some (.int p4), some (.int v7)] [] m8 := by
    intro n4
    induction n4 with
    | zero =>
      intro v7 m8 h
      exact absurd h (by simp [fX6_copyState_L3])
    | succ n4 ih5 =>
      intro v7 m8 h
      rw [fX6_copyState_L3] at h
      refine r_iload (pc := 3) dX6_copyState_3 rfl ?_
      refine r_sipush (pc := 5) (v := 258) dX6_copyState_5 (by decide) ?_
      refine r_icmp_ge (pc := 8) (tgt := 29) dX6_copyState_8 (by decide) h (fun h => ?_) (fun h => ?_)
      · exact r_vretH dX6_copyState_29 h he
      · refine r_aload_n (pc := 11) dX6_copyState_11 rfl rfl ?_
        refine r_iload_n (pc := 12) dX6_copyState_12 rfl rfl ?_
        refine r_iload (pc := 13) dX6_copyState_13 rfl ?_
        refine r_iadd (pc := 15) dX6_copyState_15 ?_
        refine r_aload_n (pc := 16) dX6_copyState_16 rfl rfl ?_
        refine r_iload_n (pc := 17) dX6_copyState_17 rfl rfl ?_
        refine r_iload (pc := 18) dX6_copyState_18 rfl ?_
        refine r_iadd (pc := 20) dX6_copyState_20 ?_
        refine r_iald (pc := 21) dX6_copyState_21 h1 h (fun x9 h => ?_)
        refine r_iast (pc := 22) dX6_copyState_22 h3 h (fun m10 h => ?_)
        refine r_iinc (pc := 23) (d := 1) dX6_copyState_23 rfl (by decide) (by rw [hnL]; decide) h (fun x11 h => ?_)
        refine r_goto (pc := 26) (tgt := 3) dX6_copyState_26 (by decide) ?_
        exact r_mask [true, true, true, true, true] rfl (ih5 _ _ h)
  exact r_mask [true, true, true, true, true] rfl (L6 _ _ _ h)
def fX6_clear_L48 (a0 : Nat) (a0n : Nat) (r2 : Int32 → gM → Option (gM)) : Nat → Int32 → gM → Option (gM)
  | 0, _, _ => none
  | n + 1, v1, m => (if 4 ≤ v1 then some m else gWr m a0 a0n (16 + v1) v1 fun m6 => gLt (v1 + 1) fun x7 => fX6_clear_L48 a0 a0n r2 n x7 m6)
def fX6_clear_L2 (a0 : Nat) (a0n : Nat) : Nat → Int32 → gM → Option (gM)
  | 0, _, _ => none
  | n + 1, v1, m => (if 258 ≤ v1 then gWr m a0 a0n 11 30 fun m1 => gWr m1 a0 a0n 12 1 fun m2 => gWr m2 a0 a0n 13 2 fun m3 => gWr m3 a0 a0n 14 10 fun m4 => gWr m4 a0 a0n 15 3 fun m5 => fX6_clear_L48 a0 a0n (fX6_clear_L2 a0 a0n n) gFU 0 m5 else gWr m a0 a0n v1 0 fun m15 => gLt (v1 + 1) fun x16 => fX6_clear_L2 a0 a0n n x16 m15)
def fX6_clear (a1 a1n : Nat) (m : gM) : Option (gM) := fX6_clear_L2 a1 a1n gFU 0 m
abbrev rmX6_clear : Room := { frames := 0, cells := 0, slots := 0, locals := 0 }
set_option maxHeartbeats 4000000 in
set_option maxRecDepth 100000 in
theorem tX6_clear (l : Launch) (G : gX) (u : gU) (hF : gFull u) (a1 a1n : Nat) (m : gM) (o : gM) (h : fX6_clear a1 a1n m = some o) (h1 : gIn u a1 7 a1n) : gMet l G u yX6_clear (.code yX6_clear cX6_clear 2 none) rmX6_clear [.ref a1] m o none := by
  refine gMet_of (own := RX6) (k := 1) (by decide) rfl ⟨rfl, rfl⟩ (Nat.le_of_ble_eq_true rfl) [some (.ref a1), none] rfl (fun Y hG hu hnL hLn hRm he => ?_)
  subst hG hu hLn
  unfold fX6_clear at h
  refine r_iconst (pc := 0) (v := 0) dX6_clear_0 (by decide) ?_
  refine r_istore_n (pc := 1) dX6_clear_1 rfl (by rw [hnL]; decide) rfl ?_
  have L19 : ∀ (n17 : Nat) (v20 : Int32) (m21 : gM), fX6_clear_L2 a1 a1n n17 v20 m21 = some o → AW Y cX6_clear RX6 2 [some (.ref a1), some (.int v20)] [] m21 := by
    intro n17
    induction n17 with
    | zero =>
      intro v20 m21 h
      exact absurd h (by simp [fX6_clear_L2])
    | succ n17 ih18 =>
      intro v20 m21 h
      rw [fX6_clear_L2] at h
      refine r_iload_n (pc := 2) dX6_clear_2 rfl rfl ?_
      refine r_sipush (pc := 3) (v := 258) dX6_clear_3 (by decide) ?_
      refine r_icmp_ge (pc := 6) (tgt := 19) dX6_clear_6 (by decide) h (fun h => ?_) (fun h => ?_)
      · refine r_aload_n (pc := 19) dX6_clear_19 rfl rfl ?_
        refine r_bipush (pc := 20) (v := 11) dX6_clear_20 (by decide) ?_
        refine r_bipush (pc := 22) (v := 30) dX6_clear_22 (by decide) ?_
        refine r_iast (pc := 24) dX6_clear_24 h1 h (fun m22 h => ?_)
        refine r_aload_n (pc := 25) dX6_clear_25 rfl rfl ?_
        refine r_bipush (pc := 26) (v := 12) dX6_clear_26 (by decide) ?_
        refine r_iconst (pc := 28) (v := 1) dX6_clear_28 (by decide) ?_
        refine r_iast (pc := 29) dX6_clear_29 h1 h (fun m23 h => ?_)
        refine r_aload_n (pc := 30) dX6_clear_30 rfl rfl ?_
        refine r_bipush (pc := 31) (v := 13) dX6_clear_31 (by decide) ?_
        refine r_iconst (pc := 33) (v := 2) dX6_clear_33 (by decide) ?_
        refine r_iast (pc := 34) dX6_clear_34 h1 h (fun m24 h => ?_)
        refine r_aload_n (pc := 35) dX6_clear_35 rfl rfl ?_
        refine r_bipush (pc := 36) (v := 14) dX6_clear_36 (by decide) ?_
        refine r_bipush (pc := 38) (v := 10) dX6_clear_38 (by decide) ?_
        refine r_iast (pc := 40) dX6_clear_40 h1 h (fun m25 h => ?_)
        refine r_aload_n (pc := 41) dX6_clear_41 rfl rfl ?_
        refine r_bipush (pc := 42) (v := 15) dX6_clear_42 (by decide) ?_
        refine r_iconst (pc := 44) (v := 3) dX6_clear_44 (by decide) ?_
        refine r_iast (pc := 45) dX6_clear_45 h1 h (fun m26 h => ?_)
        refine r_iconst (pc := 46) (v := 0) dX6_clear_46 (by decide) ?_
        refine r_istore_n (pc := 47) dX6_clear_47 rfl (by rw [hnL]; decide) rfl ?_
        have L29 : ∀ (n27 : Nat) (v30 : Int32) (m31 : gM), fX6_clear_L48 a1 a1n (fX6_clear_L2 a1 a1n n17) n27 v30 m31 = some o → AW Y cX6_clear RX6 48 [some (.ref a1), some (.int v30)] [] m31 := by
          intro n27
          induction n27 with
          | zero =>
            intro v30 m31 h
            exact absurd h (by simp [fX6_clear_L48])
          | succ n27 ih28 =>
            intro v30 m31 h
            rw [fX6_clear_L48] at h
            refine r_iload_n (pc := 48) dX6_clear_48 rfl rfl ?_
            refine r_iconst (pc := 49) (v := 4) dX6_clear_49 (by decide) ?_
            refine r_icmp_ge (pc := 50) (tgt := 66) dX6_clear_50 (by decide) h (fun h => ?_) (fun h => ?_)
            · exact r_vretH dX6_clear_66 h he
            · refine r_aload_n (pc := 53) dX6_clear_53 rfl rfl ?_
              refine r_bipush (pc := 54) (v := 16) dX6_clear_54 (by decide) ?_
              refine r_iload_n (pc := 56) dX6_clear_56 rfl rfl ?_
              refine r_iadd (pc := 57) dX6_clear_57 ?_
              refine r_iload_n (pc := 58) dX6_clear_58 rfl rfl ?_
              refine r_iast (pc := 59) dX6_clear_59 h1 h (fun m32 h => ?_)
              refine r_iinc (pc := 60) (d := 1) dX6_clear_60 rfl (by decide) (by rw [hnL]; decide) h (fun x33 h => ?_)
              refine r_goto (pc := 63) (tgt := 48) dX6_clear_63 (by decide) ?_
              exact r_mask [true, true] rfl (ih28 _ _ h)
        exact r_mask [true, true] rfl (L29 _ _ _ h)
      · refine r_aload_n (pc := 9) dX6_clear_9 rfl rfl ?_
        refine r_iload_n (pc := 10) dX6_clear_10 rfl rfl ?_
        refine r_iconst (pc := 11) (v := 0) dX6_clear_11 (by decide) ?_
        refine r_iast (pc := 12) dX6_clear_12 h1 h (fun m34 h => ?_)
        refine r_iinc (pc := 13) (d := 1) dX6_clear_13 rfl (by decide) (by rw [hnL]; decide) h (fun x35 h => ?_)
        refine r_goto (pc := 16) (tgt := 2) dX6_clear_16 (by decide) ?_
        exact r_mask [true, true] rfl (ih18 _ _ h)
  exact r_mask [true, true] rfl (L19 _ _ _ h)
def fX6_of (a1 a1n : Nat) (p2 : Int32) (p3 : Int32) (m : gM) : Option (gM × Int32) := gRd m a1 a1n ((48 + (21 * p2)) + p3) fun x1 => some (m, x1)
abbrev rmX6_of : Room := { frames := 0, cells := 0, slots := 0, locals := 0 }
set_option maxHeartbeats 4000000 in
set_option maxRecDepth 100000 in
theorem tX6_of (l : Launch) (G : gX) (u : gU) (hF : gFull u) (a1 a1n : Nat) (p2 : Int32) (p3 : Int32) (m : gM) (o : gM × Int32) (h : fX6_of a1 a1n p2 p3 m = some o) (h1 : gIn u a1 7 a1n) : gMet l G u yX6_of (.code yX6_of cX6_of 3 (some .int)) rmX6_of [.ref a1, .int p2, .int p3] m o.1 (some (.int o.2)) := by
  refine gMet_of (own := RX6) (k := 0) (by decide) rfl ⟨rfl, rfl⟩ (Nat.le_of_ble_eq_true rfl) [some (.ref a1), some (.int p2), some (.int p3)] rfl (fun Y hG hu hnL hLn hRm he => ?_)
  subst hG hu hLn
  unfold fX6_of at h
  refine r_aload_n (pc := 0) dX6_of_0 rfl rfl ?_
  refine r_bipush (pc := 1) (v := 48) dX6_of_1 (by decide) ?_
  refine r_bipush (pc := 3) (v := 21) dX6_of_3 (by decide) ?_
  refine r_iload_n (pc := 5) dX6_of_5 rfl rfl ?_
  refine r_imul (pc := 6) dX6_of_6 ?_
  refine r_iadd (pc := 7) dX6_of_7 ?_
  refine r_iload_n (pc := 8) dX6_of_8 rfl rfl ?_
  refine r_iadd (pc := 9) dX6_of_9 ?_
  refine r_iald (pc := 10) dX6_of_10 h1 h (fun x1 h => ?_)
  exact r_iretH dX6_of_11 h he
def fX6_add (a1 a1n : Nat) (p2 : Int32) (p3 : Int32) (p4 : Int32) (m : gM) : Option (gM) := gRd m a1 a1n ((48 + (21 * p2)) + p3) fun x1 => gWr m a1 a1n ((48 + (21 * p2)) + p3) (x1 + p4) fun m2 => some m2
abbrev rmX6_add : Room := { frames := 0, cells := 0, slots := 0, locals := 0 }
set_option maxHeartbeats 4000000 in
set_option maxRecDepth 100000 in
theorem tX6_add (l : Launch) (G : gX) (u : gU) (hF : gFull u) (a1 a1n : Nat) (p2 : Int32) (p3 : Int32) (p4 : Int32) (m : gM) (o : gM) (h : fX6_add a1 a1n p2 p3 p4 m = some o) (h1 : gIn u a1 7 a1n) : gMet l G u yX6_add (.code yX6_add cX6_add 4 none) rmX6_add [.ref a1, .int p2, .int p3, .int p4] m o none := by
  refine gMet_of (own := RX6) (k := 0) (by decide) rfl ⟨rfl, rfl⟩ (Nat.le_of_ble_eq_true rfl) [some (.ref a1), some (.int p2), some (.int p3), some (.int p4)] rfl (fun Y hG hu hnL hLn hRm he => ?_)
  subst hG hu hLn
  unfold fX6_add at h
  refine r_aload_n (pc := 0) dX6_add_0 rfl rfl ?_
  refine r_bipush (pc := 1) (v := 48) dX6_add_1 (by decide) ?_
  refine r_bipush (pc := 3) (v := 21) dX6_add_3 (by decide) ?_
  refine r_iload_n (pc := 5) dX6_add_5 rfl rfl ?_
  refine r_imul (pc := 6) dX6_add_6 ?_
  refine r_iadd (pc := 7) dX6_add_7 ?_
  refine r_iload_n (pc := 8) dX6_add_8 rfl rfl ?_
  refine r_iadd (pc := 9) dX6_add_9 ?_
  refine r_dup2 (pc := 10) dX6_add_10 rfl rfl ?_
  refine r_iald (pc := 11) dX6_add_11 h1 h (fun x1 h => ?_)
  refine r_iload_n (pc := 12) dX6_add_12 rfl rfl ?_
  refine r_iadd (pc := 13) dX6_add_13 ?_
  refine r_iast (pc := 14) dX6_add_14 h1 h (fun m2 h => ?_)
  exact r_vretH dX6_add_15 h he
def fX6_isCustomer (a1 a1n : Nat) (p2 : Int32) (m : gM) : Option (gM × Int32) := gRd m a1 a1n 0 fun x1 => gCl (fX6_in (p2.toInt64) 0 ((x1 - 1).toInt64) m) fun m2 x3 => gRz .boolean x3 (some (m2, x3))
abbrev rmX6_isCustomer : Room := { frames := 1, cells := 0, slots := 0, locals := 25 }
set_option maxHeartbeats 4000000 in
set_option maxRecDepth 100000 in
theorem tX6_isCustomer (l : Launch) (G : gX) (u : gU) (hF : gFull u) (a1 a1n : Nat) (p2 : Int32) (m : gM) (o : gM × Int32) (h : fX6_isCustomer a1 a1n p2 m = some o) (h1 : gIn u a1 7 a1n) : gMet l G u yX6_isCustomer (.code yX6_isCustomer cX6_isCustomer 2 (some .boolean)) rmX6_isCustomer [.ref a1, .int p2] m o.1 (some (.int o.2)) := by
  refine gMet_of (own := RX6) (k := 0) (by decide) rfl ⟨rfl, rfl⟩ (Nat.le_of_ble_eq_true rfl) [some (.ref a1), some (.int p2)] rfl (fun Y hG hu hnL hLn hRm he => ?_)
  subst hG hu hLn
  unfold fX6_isCustomer at h
  refine r_iload_n (pc := 0) dX6_isCustomer_0 rfl rfl ?_
  refine r_i2l (pc := 1) dX6_isCustomer_1 ?_
  refine r_lconst (pc := 2) (v := 0) dX6_isCustomer_2 (by decide) ?_
  refine r_aload_n (pc := 3) dX6_isCustomer_3 rfl rfl ?_
  refine r_iconst (pc := 4) (v := 0) dX6_isCustomer_4 (by decide) ?_
  refine r_iald (pc := 5) dX6_isCustomer_5 h1 h (fun x1 h => ?_)
  refine r_iconst (pc := 6) (v := 1) dX6_isCustomer_6 (by decide) ?_
  refine r_isub (pc := 7) dX6_isCustomer_7 ?_
  refine r_i2l (pc := 8) dX6_isCustomer_8 ?_
  obtain ⟨m2, x3, q4, h⟩ := gCl_some h
  refine r_callS (pc := 9) [.long _, .long _, .long _] (tX6_in _ _ _ hF _ _ _ _ _ q4) ⟨rfl, rfl⟩ cd_X6_in wX6_37 nm_X6_in rfl (by rw [hRm]; decide) rfl (Nat.le_of_ble_eq_true rfl) dX6_isCustomer_9 ?_
  exact r_zretH dX6_isCustomer_12 rfl h he
def fX6_isStreet (p1 : Int32) (m : gM) : Option (gM × Int32) := gCl (fX6_in (p1.toInt64) 0 3 m) fun m1 x2 => gRz .boolean x2 (some (m1, x2))
abbrev rmX6_isStreet : Room := { frames := 1, cells := 0, slots := 0, locals := 25 }
set_option maxHeartbeats 4000000 in
set_option maxRecDepth 100000 in
theorem tX6_isStreet (l : Launch) (G : gX) (u : gU) (hF : gFull u) (p1 : Int32) (m : gM) (o : gM × Int32) (h : fX6_isStreet p1 m = some o)  : gMet l G u yX6_isStreet (.code yX6_isStreet cX6_isStreet 1 (some .boolean)) rmX6_isStreet [.int p1] m o.1 (some (.int o.2)) := by
  refine gMet_of (own := RX6) (k := 0) (by decide) rfl ⟨rfl, rfl⟩ (Nat.le_of_ble_eq_true rfl) [some (.int p1)] rfl (fun Y hG hu hnL hLn hRm he => ?_)
  subst hG hu hLn
  unfold fX6_isStreet at h
  refine r_iload_n (pc := 0) dX6_isStreet_0 rfl rfl ?_
  refine r_i2l (pc := 1) dX6_isStreet_1 ?_
  refine r_lconst (pc := 2) (v := 0) dX6_isStreet_2 (by decide) ?_
  refine r_ldc2 (pc := 3) (v := 3) dX6_isStreet_3 cX6_41 ?_
  obtain ⟨m1, x2, q3, h⟩ := gCl_some h
  refine r_callS (pc := 6) [.long _, .long _, .long _] (tX6_in _ _ _ hF _ _ _ _ _ q3) ⟨rfl, rfl⟩ cd_X6_in wX6_37 nm_X6_in rfl (by rw [hRm]; decide) rfl (Nat.le_of_ble_eq_true rfl) dX6_isStreet_6 ?_
  exact r_zretH dX6_isStreet_9 rfl h he
def fX6_isWeekday (p1 : Int32) (m : gM) : Option (gM × Int32) := gCl (fX6_in (p1.toInt64) 0 6 m) fun m1 x2 => gRz .boolean x2 (some (m1, x2))
abbrev rmX6_isWeekday : Room := { frames := 1, cells := 0, slots := 0, locals := 25 }
set_option maxHeartbeats 4000000 in
set_option maxRecDepth 100000 in
theorem tX6_isWeekday (l : Launch) (G : gX) (u : gU) (hF : gFull u) (p1 : Int32) (m : gM) (o : gM × Int32) (h : fX6_isWeekday p1 m = some o)  : gMet l G u yX6_isWeekday (.code yX6_isWeekday cX6_isWeekday 1 (some .boolean)) rmX6_isWeekday [.int p1] m o.1 (some (.int o.2)) := by
  refine gMet_of (own := RX6) (k := 0) (by decide) rfl ⟨rfl, rfl⟩ (Nat.le_of_ble_eq_true rfl) [some (.int p1)] rfl (fun Y hG hu hnL hLn hRm he => ?_)
  subst hG hu hLn
  unfold fX6_isWeekday at h
  refine r_iload_n (pc := 0) dX6_isWeekday_0 rfl rfl ?_
  refine r_i2l (pc := 1) dX6_isWeekday_1 ?_
  refine r_lconst (pc := 2) (v := 0) dX6_isWeekday_2 (by decide) ?_
  refine r_ldc2 (pc := 3) (v := 6) dX6_isWeekday_3 cX6_43 ?_
  obtain ⟨m1, x2, q3, h⟩ := gCl_some h
  refine r_callS (pc := 6) [.long _, .long _, .long _] (tX6_in _ _ _ hF _ _ _ _ _ q3) ⟨rfl, rfl⟩ cd_X6_in wX6_37 nm_X6_in rfl (by rw [hRm]; decide) rfl (Nat.le_of_ble_eq_true rfl) dX6_isWeekday_6 ?_
  exact r_zretH dX6_isWeekday_9 rfl h he
def fX6_isSetting (p1 : Int32) (p2 : Int32) (m : gM) : Option (gM × Int32) := (if p1 = 0 then gCl (fX6_in (p2.toInt64) 0 99 m) fun m1 x2 => gRz .boolean x2 (some (m1, x2)) else (if p1 = 1 then gCl (fX6_in (p2.toInt64) 0 9 m) fun m5 x6 => gRz .boolean x6 (some (m5, x6)) else (if p1 = 2 then gCl (fX6_in (p2.toInt64) 0 9 m) fun m9 x10 => gRz .boolean x10 (some (m9, x10)) else (if p1 = 3 then gCl (fX6_in (p2.toInt64) 0 30 m) fun m13 x14 => gRz .boolean x14 (some (m13, x14)) else (if p1 = 4 then gCl (fX6_in (p2.toInt64) 1 20 m) fun m17 x18 => gRz .boolean x18 (some (m17, x18)) else gRz .boolean 0 (some (m, 0)))))))
abbrev rmX6_isSetting : Room := { frames := 1, cells := 0, slots := 0, locals := 25 }
set_option maxHeartbeats 4000000 in
set_option maxRecDepth 100000 in
theorem tX6_isSetting (l : Launch) (G : gX) (u : gU) (hF : gFull u) (p1 : Int32) (p2 : Int32) (m : gM) (o : gM × Int32) (h : fX6_isSetting p1 p2 m = some o)  : gMet l G u yX6_isSetting (.code yX6_isSetting cX6_isSetting 2 (some .boolean)) rmX6_isSetting [.int p1, .int p2] m o.1 (some (.int o.2)) := by
  refine gMet_of (own := RX6) (k := 0) (by decide) rfl ⟨rfl, rfl⟩ (Nat.le_of_ble_eq_true rfl) [some (.int p1), some (.int p2)] rfl (fun Y hG hu hnL hLn hRm he => ?_)
  subst hG hu hLn
  unfold fX6_isSetting at h
  refine r_iload_n (pc := 0) dX6_isSetting_0 rfl rfl ?_
  refine r_sw h (fun g4 h => ?_) (fun g4 h => ?_)
  · refine r_tabIn (pc := 1) (tgt := 36) (v := 0) dX6_isSetting_1 g4 (by decide) (by decide) rfl (by decide) ?_
    refine r_iload_n (pc := 36) dX6_isSetting_36 rfl rfl ?_
    refine r_i2l (pc := 37) dX6_isSetting_37 ?_
    refine r_lconst (pc := 38) (v := 0) dX6_isSetting_38 (by decide) ?_
    refine r_ldc2 (pc := 39) (v := 99) dX6_isSetting_39 cX6_45 ?_
    obtain ⟨m1, x2, q3, h⟩ := gCl_some h
    refine r_callS (pc := 42) [.long _, .long _, .long _] (tX6_in _ _ _ hF _ _ _ _ _ q3) ⟨rfl, rfl⟩ cd_X6_in wX6_37 nm_X6_in rfl (by rw [hRm]; decide) rfl (Nat.le_of_ble_eq_true rfl) dX6_isSetting_42 ?_
    exact r_zretH dX6_isSetting_45 rfl h he
  refine r_sw h (fun g8 h => ?_) (fun g8 h => ?_)
  · refine r_tabIn (pc := 1) (tgt := 46) (v := 1) dX6_isSetting_1 g8 (by decide) (by decide) rfl (by decide) ?_
    refine r_iload_n (pc := 46) dX6_isSetting_46 rfl rfl ?_
    refine r_i2l (pc := 47) dX6_isSetting_47 ?_
    refine r_lconst (pc := 48) (v := 0) dX6_isSetting_48 (by decide) ?_
    refine r_ldc2 (pc := 49) (v := 9) dX6_isSetting_49 cX6_47 ?_
    obtain ⟨m5, x6, q7, h⟩ := gCl_some h
    refine r_callS (pc := 52) [.long _, .long _, .long _] (tX6_in _ _ _ hF _ _ _ _ _ q7) ⟨rfl, rfl⟩ cd_X6_in wX6_37 nm_X6_in rfl (by rw [hRm]; decide) rfl (Nat.le_of_ble_eq_true rfl) dX6_isSetting_52 ?_
    exact r_zretH dX6_isSetting_55 rfl h he
  refine r_sw h (fun g12 h => ?_) (fun g12 h => ?_)
  · refine r_tabIn (pc := 1) (tgt := 46) (v := 2) dX6_isSetting_1 g12 (by decide) (by decide) rfl (by decide) ?_
    refine r_iload_n (pc := 46) dX6_isSetting_46 rfl rfl ?_
    refine r_i2l (pc := 47) dX6_isSetting_47 ?_
    refine r_lconst (pc := 48) (v := 0) dX6_isSetting_48 (by decide) ?_
    refine r_ldc2 (pc := 49) (v := 9) dX6_isSetting_49 cX6_47 ?_
    obtain ⟨m9, x10, q11, h⟩ := gCl_some h
    refine r_callS (pc := 52) [.long _, .long _, .long _] (tX6_in _ _ _ hF _ _ _ _ _ q11) ⟨rfl, rfl⟩ cd_X6_in wX6_37 nm_X6_in rfl (by rw [hRm]; decide) rfl (Nat.le_of_ble_eq_true rfl) dX6_isSetting_52 ?_
    exact r_zretH dX6_isSetting_55 rfl h he
  refine r_sw h (fun g16 h => ?_) (fun g16 h => ?_)
  · refine r_tabIn (pc := 1) (tgt := 56) (v := 3) dX6_isSetting_1 g16 (by decide) (by decide) rfl (by decide) ?_
    refine r_iload_n (pc := 56) dX6_isSetting_56 rfl rfl ?_
    refine r_i2l (pc := 57) dX6_isSetting_57 ?_
    refine r_lconst (pc := 58) (v := 0) dX6_isSetting_58 (by decide) ?_
    refine r_ldc2 (pc := 59) (v := 30) dX6_isSetting_59 cX6_49 ?_
    obtain ⟨m13, x14, q15, h⟩ := gCl_some h
    refine r_callS (pc := 62) [.long _, .long _, .long _] (tX6_in _ _ _ hF _ _ _ _ _ q15) ⟨rfl, rfl⟩ cd_X6_in wX6_37 nm_X6_in rfl (by rw [hRm]; decide) rfl (Nat.le_of_ble_eq_true rfl) dX6_isSetting_62 ?_
    exact r_zretH dX6_isSetting_65 rfl h he
  refine r_sw h (fun g20 h => ?_) (fun g20 h => ?_)
  · refine r_tabIn (pc := 1) (tgt := 66) (v := 4) dX6_isSetting_1 g20 (by decide) (by decide) rfl (by decide) ?_
    refine r_iload_n (pc := 66) dX6_isSetting_66 rfl rfl ?_
    refine r_i2l (pc := 67) dX6_isSetting_67 ?_
    refine r_lconst (pc := 68) (v := 1) dX6_isSetting_68 (by decide) ?_
    refine r_ldc2 (pc := 69) (v := 20) dX6_isSetting_69 cX6_51 ?_
    obtain ⟨m17, x18, q19, h⟩ := gCl_some h
    refine r_callS (pc := 72) [.long _, .long _, .long _] (tX6_in _ _ _ hF _ _ _ _ _ q19) ⟨rfl, rfl⟩ cd_X6_in wX6_37 nm_X6_in rfl (by rw [hRm]; decide) rfl (Nat.le_of_ble_eq_true rfl) dX6_isSetting_72 ?_
    exact r_zretH dX6_isSetting_75 rfl h he
  have g4 := gNe g4 (z := 0) (by decide)
  have g8 := gNe g8 (z := 1) (by decide)
  have g12 := gNe g12 (z := 2) (by decide)
  have g16 := gNe g16 (z := 3) (by decide)
  have g20 := gNe g20 (z := 4) (by decide)
  refine r_tabOut (pc := 1) (tgt := 76) dX6_isSetting_1 (by omega) (by decide) ?_
  refine r_iconst (pc := 76) (v := 0) dX6_isSetting_76 (by decide) ?_
  exact r_zretH dX6_isSetting_77 rfl h he
def fX6_isAway_L5 (a0 : Nat) (a0n : Nat) (v1 : Int32) (v2 : Int32) : Nat → Int32 → Int32 → gM → Option (gM × Int32)
  | 0, _, _, _ => none
  | n + 1, v3, v4, m => gCl (fX6_of a0 a0n v1 14 m) fun m1 x2 => (if x2 ≤ v4 then gRz .boolean v3 (some (m1, v3)) else (if v3 = 0 then gCl (fX6_of a0 a0n v1 (15 + (2 * v4)) m1) fun m5 x6 => gCl (fX6_of a0 a0n v1 ((15 + (2 * v4)) + 1) m5) fun m8 x9 => gCl (fX6_in (v2.toInt64) (x6.toInt64) (x9.toInt64) m8) fun m11 x12 => (if x12 = 0 then gLt (v4 + 1) fun x14 => fX6_isAway_L5 a0 a0n v1 v2 n 0 x14 m11 else gLt (v4 + 1) fun x15 => fX6_isAway_L5 a0 a0n v1 v2 n 1 x15 m11) else gLt (v4 + 1) fun x4 => fX6_isAway_L5 a0 a0n v1 v2 n 1 x4 m1))
def fX6_isAway (a1 a1n : Nat) (p2 : Int32) (p3 : Int32) (m : gM) : Option (gM × Int32) := fX6_isAway_L5 a1 a1n p2 p3 gFU 0 0 m
abbrev rmX6_isAway : Room := { frames := 1, cells := 0, slots := 0, locals := 25 }
set_option maxHeartbeats 4000000 in
set_option maxRecDepth 100000 in
theorem tX6_isAway (l : Launch) (G : gX) (u : gU) (hF : gFull u) (a1 a1n : Nat) (p2 : Int32) (p3 : Int32) (m : gM) (o : gM × Int32) (h : fX6_isAway a1 a1n p2 p3 m = some o) (h1 : gIn u a1 7 a1n) : gMet l G u yX6_isAway (.code yX6_isAway cX6_isAway 5 (some .boolean)) rmX6_isAway [.ref a1, .int p2, .int p3] m o.1 (some (.int o.2)) := by
  refine gMet_of (own := RX6) (k := 2) (by decide) rfl ⟨rfl, rfl⟩ (Nat.le_of_ble_eq_true rfl) [some (.ref a1), some (.int p2), some (.int p3), none, none] rfl (fun Y hG hu hnL hLn hRm he => ?_)
  subst hG hu hLn
  unfold fX6_isAway at h
  refine r_iconst (pc := 0) (v := 0) dX6_isAway_0 (by decide) ?_
  refine r_istore_n (pc := 1) dX6_isAway_1 rfl (by rw [hnL]; decide) rfl ?_
  refine r_iconst (pc := 2) (v := 0) dX6_isAway_2 (by decide) ?_
  refine r_istore (pc := 3) dX6_isAway_3 (by rw [hnL]; decide) rfl ?_
  have L18 : ∀ (n16 : Nat) (v19 : Int32) (v20 : Int32) (m21 : gM), fX6_isAway_L5 a1 a1n p2 p3 n16 v19 v20 m21 = some o → AW Y cX6_isAway RX6 5 [some (.ref a1), some (.int p2), some (.int p3), some (.int v19), some (.int v20)] [] m21 := by
    intro n16
    induction n16 with
    | zero =>
      intro v19 v20 m21 h
      exact absurd h (by simp [fX6_isAway_L5])
    | succ n16 ih17 =>
      intro v19 v20 m21 h
      rw [fX6_isAway_L5] at h
      refine r_iload (pc := 5) dX6_isAway_5 rfl ?_
      refine r_aload_n (pc := 7) dX6_isAway_7 rfl rfl ?_
      refine r_iload_n (pc := 8) dX6_isAway_8 rfl rfl ?_
      refine r_bipush (pc := 9) (v := 14) dX6_isAway_9 (by decide) ?_
      obtain ⟨m22, x23, q24, h⟩ := gCl_some h
      refine r_callS (pc := 11) [.ref _, .int _, .int _] (tX6_of _ _ _ hF _ _ _ _ _ _ q24 h1) ⟨rfl, rfl⟩ cd_X6_of wX6_53 nm_X6_of rfl (by rw [hRm]; decide) rfl (Nat.le_of_ble_eq_true rfl) dX6_isAway_11 ?_
      refine r_icmp_ge (pc := 14) (tgt := 69) dX6_isAway_14 (by decide) h (fun h => ?_) (fun h => ?_)
      · refine r_iload_n (pc := 69) dX6_isAway_69 rfl rfl ?_
        exact r_zretH dX6_isAway_70 rfl h he
      · refine r_iload_n (pc := 17) dX6_isAway_17 rfl rfl ?_
        refine r_if_ne (pc := 18) (tgt := 57) dX6_isAway_18 (by decide) h (fun h => ?_) (fun h => ?_)
        · refine r_iconst (pc := 57) (v := 1) dX6_isAway_57 (by decide) ?_
          refine r_goto (pc := 58) (tgt := 62) dX6_isAway_58 (by decide) ?_
          refine r_istore_n (pc := 62) dX6_isAway_62 rfl (by rw [hnL]; decide) rfl ?_
          refine r_iinc (pc := 63) (d := 1) dX6_isAway_63 rfl (by decide) (by rw [hnL]; decide) h (fun x25 h => ?_)
          refine r_goto (pc := 66) (tgt := 5) dX6_isAway_66 (by decide) ?_
          exact r_mask [true, true, true, true, true] rfl (ih17 _ _ _ h)
        · refine r_iload_n (pc := 21) dX6_isAway_21 rfl rfl ?_
          refine r_i2l (pc := 22) dX6_isAway_22 ?_
          refine r_aload_n (pc := 23) dX6_isAway_23 rfl rfl ?_
          refine r_iload_n (pc := 24) dX6_isAway_24 rfl rfl ?_
          refine r_bipush (pc := 25) (v := 15) dX6_isAway_25 (by decide) ?_
          refine r_iconst (pc := 27) (v := 2) dX6_isAway_27 (by decide) ?_
          refine r_iload (pc := 28) dX6_isAway_28 rfl ?_
          refine r_imul (pc := 30) dX6_isAway_30 ?_
          refine r_iadd (pc := 31) dX6_isAway_31 ?_
          obtain ⟨m26, x27, q28, h⟩ := gCl_some h
          refine r_callS (pc := 32) [.ref _, .int _, .int _] (tX6_of _ _ _ hF _ _ _ _ _ _ q28 h1) ⟨rfl, rfl⟩ cd_X6_of wX6_53 nm_X6_of rfl (by rw [hRm]; decide) rfl (Nat.le_of_ble_eq_true rfl) dX6_isAway_32 ?_
          refine r_i2l (pc := 35) dX6_isAway_35 ?_
          refine r_aload_n (pc := 36) dX6_isAway_36 rfl rfl ?_
          refine r_iload_n (pc := 37) dX6_isAway_37 rfl rfl ?_
          refine r_bipush (pc := 38) (v := 15) dX6_isAway_38 (by decide) ?_
          refine r_iconst (pc := 40) (v := 2) dX6_isAway_40 (by decide) ?_
          refine r_iload (pc := 41) dX6_isAway_41 rfl ?_
          refine r_imul (pc := 43) dX6_isAway_43 ?_
          refine r_iadd (pc := 44) dX6_isAway_44 ?_
          refine r_iconst (pc := 45) (v := 1) dX6_isAway_45 (by decide) ?_
          refine r_iadd (pc := 46) dX6_isAway_46 ?_
          obtain ⟨m29, x30, q31, h⟩ := gCl_some h
          refine r_callS (pc := 47) [.ref _, .int _, .int _] (tX6_of _ _ _ hF _ _ _ _ _ _ q31 h1) ⟨rfl, rfl⟩ cd_X6_of wX6_53 nm_X6_of rfl (by rw [hRm]; decide) rfl (Nat.le_of_ble_eq_true rfl) dX6_isAway_47 ?_
          refine r_i2l (pc := 50) dX6_isAway_50 ?_
          obtain ⟨m32, x33, q34, h⟩ := gCl_some h
          refine r_callS (pc := 51) [.long _, .long _, .long _] (tX6_in _ _ _ hF _ _ _ _ _ q34) ⟨rfl, rfl⟩ cd_X6_in wX6_37 nm_X6_in rfl (by rw [hRm]; decide) rfl (Nat.le_of_ble_eq_true rfl) dX6_isAway_51 ?_
          refine r_if_eq (pc := 54) (tgt := 61) dX6_isAway_54 (by decide) h (fun h => ?_) (fun h => ?_)
          · refine r_iconst (pc := 61) (v := 0) dX6_isAway_61 (by decide) ?_
            refine r_istore_n (pc := 62) dX6_isAway_62 rfl (by rw [hnL]; decide) rfl ?_
            refine r_iinc (pc := 63) (d := 1) dX6_isAway_63 rfl (by decide) (by rw [hnL]; decide) h (fun x35 h => ?_)
            refine r_goto (pc := 66) (tgt := 5) dX6_isAway_66 (by decide) ?_
            exact r_mask [true, true, true, true, true] rfl (ih17 _ _ _ h)
          · refine r_iconst (pc := 57) (v := 1) dX6_isAway_57 (by decide) ?_
            refine r_goto (pc := 58) (tgt := 62) dX6_isAway_58 (by decide) ?_
            refine r_istore_n (pc := 62) dX6_isAway_62 rfl (by rw [hnL]; decide) rfl ?_
            refine r_iinc (pc := 63) (d := 1) dX6_isAway_63 rfl (by decide) (by rw [hnL]; decide) h (fun x36 h => ?_)
            refine r_goto (pc := 66) (tgt := 5) dX6_isAway_66 (by decide) ?_
            exact r_mask [true, true, true, true, true] rfl (ih17 _ _ _ h)
  exact r_mask [true, true, true, true, true] rfl (L18 _ _ _ _ h)
def fX6_dueOn (a1 a1n : Nat) (p2 : Int32) (p3 : Int32) (m : gM) : Option (gM × Int32) := gCl (fX6_isAway a1 a1n p2 p3 m) fun m1 x2 => (if x2 = 0 then gCl (fX6_of a1 a1n p2 (1 + (p3 - p3 / 7 * 7)) m1) fun m4 x5 => some (m4, x5) else some (m1, 0))
abbrev rmX6_dueOn : Room := { frames := 2, cells := 0, slots := 0, locals := 49 }
set_option maxHeartbeats 4000000 in
set_option maxRecDepth 100000 in
theorem tX6_dueOn (l : Launch) (G : gX) (u : gU) (hF : gFull u) (a1 a1n : Nat) (p2 : Int32) (p3 : Int32) (m : gM) (o : gM × Int32) (h : fX6_dueOn a1 a1n p2 p3 m = some o) (h1 : gIn u a1 7 a1n) : gMet l G u yX6_dueOn (.code yX6_dueOn cX6_dueOn 3 (some .int)) rmX6_dueOn [.ref a1, .int p2, .int p3] m o.1 (some (.int o.2)) := by
  refine gMet_of (own := RX6) (k := 0) (by decide) rfl ⟨rfl, rfl⟩ (Nat.le_of_ble_eq_true rfl) [some (.ref a1), some (.int p2), some (.int p3)] rfl (fun Y hG hu hnL hLn hRm he => ?_)
  subst hG hu hLn
  unfold fX6_dueOn at h
  refine r_aload_n (pc := 0) dX6_dueOn_0 rfl rfl ?_
  refine r_iload_n (pc := 1) dX6_dueOn_1 rfl rfl ?_
  refine r_iload_n (pc := 2) dX6_dueOn_2 rfl rfl ?_
  obtain ⟨m1, x2, q3, h⟩ := gCl_some h
  refine r_callS (pc := 3) [.ref _, .int _, .int _] (tX6_isAway _ _ _ hF _ _ _ _ _ _ q3 h1) ⟨rfl, rfl⟩ cd_X6_isAway wX6_57 nm_X6_isAway rfl (by rw [hRm]; decide) rfl (Nat.le_of_ble_eq_true rfl) dX6_dueOn_3 ?_
  refine r_if_eq (pc := 6) (tgt := 13) dX6_dueOn_6 (by decide) h (fun h => ?_) (fun h => ?_)
  · refine r_aload_n (pc := 13) dX6_dueOn_13 rfl rfl ?_
    refine r_iload_n (pc := 14) dX6_dueOn_14 rfl rfl ?_
    refine r_iconst (pc := 15) (v := 1) dX6_dueOn_15 (by decide) ?_
    refine r_iload_n (pc := 16) dX6_dueOn_16 rfl rfl ?_
    refine r_bipush (pc := 17) (v := 7) dX6_dueOn_17 (by decide) ?_
    refine r_iremc (pc := 19) dX6_dueOn_19 (by decide) ?_
    refine r_iadd (pc := 20) dX6_dueOn_20 ?_
    obtain ⟨m4, x5, q6, h⟩ := gCl_some h
    refine r_callS (pc := 21) [.ref _, .int _, .int _] (tX6_of _ _ _ hF _ _ _ _ _ _ q6 h1) ⟨rfl, rfl⟩ cd_X6_of wX6_53 nm_X6_of rfl (by rw [hRm]; decide) rfl (Nat.le_of_ble_eq_true rfl) dX6_dueOn_21 ?_
    exact r_iretH dX6_dueOn_24 h he
  · refine r_iconst (pc := 9) (v := 0) dX6_dueOn_9 (by decide) ?_
    refine r_goto (pc := 10) (tgt := 24) dX6_dueOn_10 (by decide) ?_
    exact r_iretH dX6_dueOn_24 h he
def fX6_allDue_L4 (a0 : Nat) (a0n : Nat) (v1 : Int32) : Nat → Int32 → Int32 → gM → Option (gM × Int32)
  | 0, _, _, _ => none
  | n + 1, v2, v3, m => gRd m a0 a0n 0 fun x1 => (if x1 ≤ v3 then some (m, v2) else gCl (fX6_dueOn a0 a0n v3 v1 m) fun m2 x3 => gLt ((v2 + x3)) fun x5 => gLt (v3 + 1) fun x6 => fX6_allDue_L4 a0 a0n v1 n x5 x6 m2)
def fX6_allDue (a1 a1n : Nat) (p2 : Int32) (m : gM) : Option (gM × Int32) := fX6_allDue_L4 a1 a1n p2 gFU 0 0 m
abbrev rmX6_allDue : Room := { frames := 3, cells := 0, slots := 0, locals := 71 }
set_option maxHeartbeats 4000000 in
set_option maxRecDepth 100000 in
theorem tX6_allDue (l : Launch) (G : gX) (u : gU) (hF : gFull u) (a1 a1n : Nat) (p2 : Int32) (m : gM) (o : gM × Int32) (h : fX6_allDue a1 a1n p2 m = some o) (h1 : gIn u a1 7 a1n) : gMet l G u yX6_allDue (.code yX6_allDue cX6_allDue 4 (some .int)) rmX6_allDue [.ref a1, .int p2] m o.1 (some (.int o.2)) := by
  refine gMet_of (own := RX6) (k := 2) (by decide) rfl ⟨rfl, rfl⟩ (Nat.le_of_ble_eq_true rfl) [some (.ref a1), some (.int p2), none, none] rfl (fun Y hG hu hnL hLn hRm he => ?_)
  subst hG hu hLn
  unfold fX6_allDue at h
  refine r_iconst (pc := 0) (v := 0) dX6_allDue_0 (by decide) ?_
  refine r_istore_n (pc := 1) dX6_allDue_1 rfl (by rw [hnL]; decide) rfl ?_
  refine r_iconst (pc := 2) (v := 0) dX6_allDue_2 (by decide) ?_
  refine r_istore_n (pc := 3) dX6_allDue_3 rfl (by rw [hnL]; decide) rfl ?_
  have L9 : ∀ (n7 : Nat) (v10 : Int32) (v11 : Int32) (m12 : gM), fX6_allDue_L4 a1 a1n p2 n7 v10 v11 m12 = some o → AW Y cX6_allDue RX6 4 [some (.ref a1), some (.int p2), some (.int v10), some (.int v11)] [] m12 := by
    intro n7
    induction n7 with
    | zero =>
      intro v10 v11 m12 h
      exact absurd h (by simp [fX6_allDue_L4])
    | succ n7 ih8 =>
      intro v10 v11 m12 h
      rw [fX6_allDue_L4] at h
      refine r_iload_n (pc := 4) dX6_allDue_4 rfl rfl ?_
      refine r_aload_n (pc := 5) dX6_allDue_5 rfl rfl ?_
      refine r_iconst (pc := 6) (v := 0) dX6_allDue_6 (by decide) ?_
      refine r_iald (pc := 7) dX6_allDue_7 h1 h (fun x13 h => ?_)
      refine r_icmp_ge (pc := 8) (tgt := 26) dX6_allDue_8 (by decide) h (fun h => ?_) (fun h => ?_)
      · refine r_iload_n (pc := 26) dX6_allDue_26 rfl rfl ?_
        exact r_iretH dX6_allDue_27 h he
      · refine r_iload_n (pc := 11) dX6_allDue_11 rfl rfl ?_
        refine r_aload_n (pc := 12) dX6_allDue_12 rfl rfl ?_
        refine r_iload_n (pc := 13) dX6_allDue_13 rfl rfl ?_
        refine r_iload_n (pc := 14) dX6_allDue_14 rfl rfl ?_
        obtain ⟨m14, x15, q16, h⟩ := gCl_some h
        refine r_callS (pc := 15) [.ref _, .int _, .int _] (tX6_dueOn _ _ _ hF _ _ _ _ _ _ q16 h1) ⟨rfl, rfl⟩ cd_X6_dueOn wX6_61 nm_X6_dueOn rfl (by rw [hRm]; decide) rfl (Nat.le_of_ble_eq_true rfl) dX6_allDue_15 ?_
        refine r_iadd (pc := 18) dX6_allDue_18 ?_
        refine r_istore_nL (pc := 19) dX6_allDue_19 rfl (by rw [hnL]; decide) h (fun x17 h => ?_)
        refine r_iinc (pc := 20) (d := 1) dX6_allDue_20 rfl (by decide) (by rw [hnL]; decide) h (fun x18 h => ?_)
        refine r_goto (pc := 23) (tgt := 4) dX6_allDue_23 (by decide) ?_
        exact r_mask [true, true, true, true] rfl (ih8 _ _ _ h)
  exact r_mask [true, true, true, true] rfl (L9 _ _ _ _ h)
def fX6_isOpen (a1 a1n : Nat) (p2 : Int32) (p3 : Int32) (m : gM) : Option (gM × Int32) := gCl (fX6_of a1 a1n p2 0 m) fun m1 x2 => gRd m1 a1 a1n ((20 + (7 * x2)) + (p3 - p3 / 7 * 7)) fun x4 => (if x4 = 0 then gRz .boolean 1 (some (m1, 1)) else gRz .boolean 0 (some (m1, 0)))
abbrev rmX6_isOpen : Room := { frames := 1, cells := 0, slots := 0, locals := 22 }
set_option maxHeartbeats 4000000 in
set_option maxRecDepth 100000 in
theorem tX6_isOpen (l : Launch) (G : gX) (u : gU) (hF : gFull u) (a1 a1n : Nat) (p2 : Int32) (p3 : Int32) (m : gM) (o : gM × Int32) (h : fX6_isOpen a1 a1n p2 p3 m = some o) (h1 : gIn u a1 7 a1n) : gMet l G u yX6_isOpen (.code yX6_isOpen cX6_isOpen 3 (some .boolean)) rmX6_isOpen [.ref a1, .int p2, .int p3] m o.1 (some (.int o.2)) := by
  refine gMet_of (own := RX6) (k := 0) (by decide) rfl ⟨rfl, rfl⟩ (Nat.le_of_ble_eq_true rfl) [some (.ref a1), some (.int p2), some (.int p3)] rfl (fun Y hG hu hnL hLn hRm he => ?_)
  subst hG hu hLn
  unfold fX6_isOpen at h
  refine r_aload_n (pc := 0) dX6_isOpen_0 rfl rfl ?_
  refine r_bipush (pc := 1) (v := 20) dX6_isOpen_1 (by decide) ?_
  refine r_bipush (pc := 3) (v := 7) dX6_isOpen_3 (by decide) ?_
  refine r_aload_n (pc := 5) dX6_isOpen_5 rfl rfl ?_
  refine r_iload_n (pc := 6) dX6_isOpen_6 rfl rfl ?_
  refine r_iconst (pc := 7) (v := 0) dX6_isOpen_7 (by decide) ?_
  obtain ⟨m1, x2, q3, h⟩ := gCl_some h
  refine r_callS (pc := 8) [.ref _, .int _, .int _] (tX6_of _ _ _ hF _ _ _ _ _ _ q3 h1) ⟨rfl, rfl⟩ cd_X6_of wX6_53 nm_X6_of rfl (by rw [hRm]; decide) rfl (Nat.le_of_ble_eq_true rfl) dX6_isOpen_8 ?_
  refine r_imul (pc := 11) dX6_isOpen_11 ?_
  refine r_iadd (pc := 12) dX6_isOpen_12 ?_
  refine r_iload_n (pc := 13) dX6_isOpen_13 rfl rfl ?_
  refine r_bipush (pc := 14) (v := 7) dX6_isOpen_14 (by decide) ?_
  refine r_iremc (pc := 16) dX6_isOpen_16 (by decide) ?_
  refine r_iadd (pc := 17) dX6_isOpen_17 ?_
  refine r_iald (pc := 18) dX6_isOpen_18 h1 h (fun x4 h => ?_)
  refine r_if_ne (pc := 19) (tgt := 26) dX6_isOpen_19 (by decide) h (fun h => ?_) (fun h => ?_)
  · refine r_iconst (pc := 26) (v := 0) dX6_isOpen_26 (by decide) ?_
    exact r_zretH dX6_isOpen_27 rfl h he
  · refine r_iconst (pc := 22) (v := 1) dX6_isOpen_22 (by decide) ?_
    refine r_goto (pc := 23) (tgt := 27) dX6_isOpen_23 (by decide) ?_
    exact r_zretH dX6_isOpen_27 rfl h he
def fX6_credits_L4 (a0 : Nat) (a0n : Nat) : Nat → Int32 → Int32 → gM → Option (gM × Int32)
  | 0, _, _, _ => none
  | n + 1, v1, v2, m => gRd m a0 a0n 0 fun x1 => (if x1 ≤ v2 then some (m, v1) else gCl (fX6_of a0 a0n v2 8 m) fun m2 x3 => gLt ((v1 + x3)) fun x5 => gLt (v2 + 1) fun x6 => fX6_credits_L4 a0 a0n n x5 x6 m2)
def fX6_credits (a1 a1n : Nat) (m : gM) : Option (gM × Int32) := fX6_credits_L4 a1 a1n gFU 0 0 m
abbrev rmX6_credits : Room := { frames := 1, cells := 0, slots := 0, locals := 22 }
set_option maxHeartbeats 4000000 in
set_option maxRecDepth 100000 in
theorem tX6_credits (l : Launch) (G : gX) (u : gU) (hF : gFull u) (a1 a1n : Nat) (m : gM) (o : gM × Int32) (h : fX6_credits a1 a1n m = some o) (h1 : gIn u a1 7 a1n) : gMet l G u yX6_credits (.code yX6_credits cX6_credits 3 (some .int)) rmX6_credits [.ref a1] m o.1 (some (.int o.2)) := by
  refine gMet_of (own := RX6) (k := 2) (by decide) rfl ⟨rfl, rfl⟩ (Nat.le_of_ble_eq_true rfl) [some (.ref a1), none, none] rfl (fun Y hG hu hnL hLn hRm he => ?_)
  subst hG hu hLn
  unfold fX6_credits at h
  refine r_iconst (pc := 0) (v := 0) dX6_credits_0 (by decide) ?_
  refine r_istore_n (pc := 1) dX6_credits_1 rfl (by rw [hnL]; decide) rfl ?_
  refine r_iconst (pc := 2) (v := 0) dX6_credits_2 (by decide) ?_
  refine r_istore_n (pc := 3) dX6_credits_3 rfl (by rw [hnL]; decide) rfl ?_
  have L9 : ∀ (n7 : Nat) (v10 : Int32) (v11 : Int32) (m12 : gM), fX6_credits_L4 a1 a1n n7 v10 v11 m12 = some o → AW Y cX6_credits RX6 4 [some (.ref a1), some (.int v10), some (.int v11)] [] m12 := by
    intro n7
    induction n7 with
    | zero =>
      intro v10 v11 m12 h
      exact absurd h (by simp [fX6_credits_L4])
    | succ n7 ih8 =>
      intro v10 v11 m12 h
      rw [fX6_credits_L4] at h
      refine r_iload_n (pc := 4) dX6_credits_4 rfl rfl ?_
      refine r_aload_n (pc := 5) dX6_credits_5 rfl rfl ?_
      refine r_iconst (pc := 6) (v := 0) dX6_credits_6 (by decide) ?_
      refine r_iald (pc := 7) dX6_credits_7 h1 h (fun x13 h => ?_)
      refine r_icmp_ge (pc := 8) (tgt := 27) dX6_credits_8 (by decide) h (fun h => ?_) (fun h => ?_)
      · refine r_iload_n (pc := 27) dX6_credits_27 rfl rfl ?_
        exact r_iretH dX6_credits_28 h he
      · refine r_iload_n (pc := 11) dX6_credits_11 rfl rfl ?_
        refine r_aload_n (pc := 12) dX6_credits_12 rfl rfl ?_
        refine r_iload_n (pc := 13) dX6_credits_13 rfl rfl ?_
        refine r_bipush (pc := 14) (v := 8) dX6_credits_14 (by decide) ?_
        obtain ⟨m14, x15, q16, h⟩ := gCl_some h
        refine r_callS (pc := 16) [.ref _, .int _, .int _] (tX6_of _ _ _ hF _ _ _ _ _ _ q16 h1) ⟨rfl, rfl⟩ cd_X6_of wX6_53 nm_X6_of rfl (by rw [hRm]; decide) rfl (Nat.le_of_ble_eq_true rfl) dX6_credits_16 ?_
        refine r_iadd (pc := 19) dX6_credits_19 ?_
        refine r_istore_nL (pc := 20) dX6_credits_20 rfl (by rw [hnL]; decide) h (fun x17 h => ?_)
        refine r_iinc (pc := 21) (d := 1) dX6_credits_21 rfl (by decide) (by rw [hnL]; decide) h (fun x18 h => ?_)
        refine r_goto (pc := 24) (tgt := 4) dX6_credits_24 (by decide) ?_
        exact r_mask [true, true, true] rfl (ih8 _ _ _ h)
  exact r_mask [true, true, true] rfl (L9 _ _ _ _ h)
def fX6_baked (a1 a1n : Nat) (p2 : Int32) (m : gM) : Option (gM × Int32) := gCl (fX6_allDue a1 a1n p2 m) fun m1 x2 => gRd m1 a1 a1n 12 fun x4 => gLt ((x2 + x4)) fun x5 => gRd m1 a1 a1n 11 fun x6 => (if x6 ≤ x5 then gRd m1 a1 a1n 11 fun x7 => some (m1, x7) else some (m1, x5))
abbrev rmX6_baked : Room := { frames := 4, cells := 0, slots := 0, locals := 94 }
set_option maxHeartbeats 4000000 in
set_option maxRecDepth 100000 in
theorem tX6_baked (l : Launch) (G : gX) (u : gU) (hF : gFull u) (a1 a1n : Nat) (p2 : Int32) (m : gM) (o : gM × Int32) (h : fX6_baked a1 a1n p2 m = some o) (h1 : gIn u a1 7 a1n) : gMet l G u yX6_baked (.code yX6_baked cX6_baked 3 (some .int)) rmX6_baked [.ref a1, .int p2] m o.1 (some (.int o.2)) := by
  refine gMet_of (own := RX6) (k := 1) (by decide) rfl ⟨rfl, rfl⟩ (Nat.le_of_ble_eq_true rfl) [some (.ref a1), some (.int p2), none] rfl (fun Y hG hu hnL hLn hRm he => ?_)
  subst hG hu hLn
  unfold fX6_baked at h
  refine r_aload_n (pc := 0) dX6_baked_0 rfl rfl ?_
  refine r_iload_n (pc := 1) dX6_baked_1 rfl rfl ?_
  obtain ⟨m1, x2, q3, h⟩ := gCl_some h
  refine r_callS (pc := 2) [.ref _, .int _] (tX6_allDue _ _ _ hF _ _ _ _ _ q3 h1) ⟨rfl, rfl⟩ cd_X6_allDue wX6_64 nm_X6_allDue rfl (by rw [hRm]; decide) rfl (Nat.le_of_ble_eq_true rfl) dX6_baked_2 ?_
  refine r_aload_n (pc := 5) dX6_baked_5 rfl rfl ?_
  refine r_bipush (pc := 6) (v := 12) dX6_baked_6 (by decide) ?_
  refine r_iald (pc := 8) dX6_baked_8 h1 h (fun x4 h => ?_)
  refine r_iadd (pc := 9) dX6_baked_9 ?_
  refine r_istore_nL (pc := 10) dX6_baked_10 rfl (by rw [hnL]; decide) h (fun x5 h => ?_)
  refine r_iload_n (pc := 11) dX6_baked_11 rfl rfl ?_
  refine r_aload_n (pc := 12) dX6_baked_12 rfl rfl ?_
  refine r_bipush (pc := 13) (v := 11) dX6_baked_13 (by decide) ?_
  refine r_iald (pc := 15) dX6_baked_15 h1 h (fun x6 h => ?_)
  refine r_icmp_ge (pc := 16) (tgt := 23) dX6_baked_16 (by decide) h (fun h => ?_) (fun h => ?_)
  · refine r_aload_n (pc := 23) dX6_baked_23 rfl rfl ?_
    refine r_bipush (pc := 24) (v := 11) dX6_baked_24 (by decide) ?_
    refine r_iald (pc := 26) dX6_baked_26 h1 h (fun x7 h => ?_)
    exact r_iretH dX6_baked_27 h he
  · refine r_iload_n (pc := 19) dX6_baked_19 rfl rfl ?_
    refine r_goto (pc := 20) (tgt := 27) dX6_baked_20 (by decide) ?_
    exact r_iretH dX6_baked_27 h he
def fX6_placeOf_L2 (a0 : Nat) (a0n : Nat) (v1 : Int32) : Nat → Int32 → gM → Option (gM × Int32)
  | 0, _, _ => none
  | n + 1, v2, m => gRd m a0 a0n (16 + v2) fun x1 => (if x1 = v1 then some (m, v2) else gLt (v2 + 1) fun x2 => fX6_placeOf_L2 a0 a0n v1 n x2 m)
def fX6_placeOf (a1 a1n : Nat) (p2 : Int32) (m : gM) : Option (gM × Int32) := fX6_placeOf_L2 a1 a1n p2 gFU 0 m
abbrev rmX6_placeOf : Room := { frames := 0, cells := 0, slots := 0, locals := 0 }
set_option maxHeartbeats 4000000 in
set_option maxRecDepth 100000 in
theorem tX6_placeOf (l : Launch) (G : gX) (u : gU) (hF : gFull u) (a1 a1n : Nat) (p2 : Int32) (m : gM) (o : gM × Int32) (h : fX6_placeOf a1 a1n p2 m = some o) (h1 : gIn u a1 7 a1n) : gMet l G u yX6_placeOf (.code yX6_placeOf cX6_placeOf 3 (some .int)) rmX6_placeOf [.ref a1, .int p2] m o.1 (some (.int o.2)) := by
  refine gMet_of (own := RX6) (k := 1) (by decide) rfl ⟨rfl, rfl⟩ (Nat.le_of_ble_eq_true rfl) [some (.ref a1), some (.int p2), none] rfl (fun Y hG hu hnL hLn hRm he => ?_)
  subst hG hu hLn
  unfold fX6_placeOf at h
  refine r_iconst (pc := 0) (v := 0) dX6_placeOf_0 (by decide) ?_
  refine r_istore_n (pc := 1) dX6_placeOf_1 rfl (by rw [hnL]; decide) rfl ?_
  have L5 : ∀ (n3 : Nat) (v6 : Int32) (m7 : gM), fX6_placeOf_L2 a1 a1n p2 n3 v6 m7 = some o → AW Y cX6_placeOf RX6 2 [some (.ref a1), some (.int p2), some (.int v6)] [] m7 := by
    intro n3
    induction n3 with
    | zero =>
      intro v6 m7 h
      exact absurd h (by simp [fX6_placeOf_L2])
    | succ n3 ih4 =>
      intro v6 m7 h
      rw [fX6_placeOf_L2] at h
      refine r_aload_n (pc := 2) dX6_placeOf_2 rfl rfl ?_
      refine r_bipush (pc := 3) (v := 16) dX6_placeOf_3 (by decide) ?_
      refine r_iload_n (pc := 5) dX6_placeOf_5 rfl rfl ?_
      refine r_iadd (pc := 6) dX6_placeOf_6 ?_
      refine r_iald (pc := 7) dX6_placeOf_7 h1 h (fun x8 h => ?_)
      refine r_iload_n (pc := 8) dX6_placeOf_8 rfl rfl ?_
      refine r_icmp_eq (pc := 9) (tgt := 18) dX6_placeOf_9 (by decide) h (fun h => ?_) (fun h => ?_)
      · refine r_iload_n (pc := 18) dX6_placeOf_18 rfl rfl ?_
        exact r_iretH dX6_placeOf_19 h he
      · refine r_iinc (pc := 12) (d := 1) dX6_placeOf_12 rfl (by decide) (by rw [hnL]; decide) h (fun x9 h => ?_)
        refine r_goto (pc := 15) (tgt := 2) dX6_placeOf_15 (by decide) ?_
        exact r_mask [true, true, true] rfl (ih4 _ _ h)
  exact r_mask [true, true, true] rfl (L5 _ _ _ h)
def fX6_inRound_L12 (a0 : Nat) (a0n : Nat) (v3 : Int32) (r4 : Int32 → Int32 → gM → Option (gM × Int32)) : Nat → Int32 → Int32 → gM → Option (gM × Int32)
  | 0, _, _, _ => none
  | n + 1, v2, v4, m => gRd m a0 a0n 0 fun x1 => (if x1 ≤ v4 then gLt (v3 + 1) fun x2 => r4 v2 x2 m else gCl (fX6_of a0 a0n v4 0 m) fun m3 x4 => gRd m3 a0 a0n (16 + v3) fun x6 => (if x4 = x6 then (if v2 = 0 then some (m3, v4) else gLt (v2 + (-1)) fun x8 => gLt (v4 + 1) fun x9 => fX6_inRound_L12 a0 a0n v3 r4 n x8 x9 m3) else gLt (v4 + 1) fun x7 => fX6_inRound_L12 a0 a0n v3 r4 n v2 x7 m3))
def fX6_inRound_L4 (a0 : Nat) (a0n : Nat) : Nat → Int32 → Int32 → gM → Option (gM × Int32)
  | 0, _, _, _ => none
  | n + 1, v2, v3, m => (if 4 ≤ v3 then some (m, (-1)) else fX6_inRound_L12 a0 a0n v3 (fX6_inRound_L4 a0 a0n n) gFU v2 0 m)
def fX6_inRound (a1 a1n : Nat) (p2 : Int32) (m : gM) : Option (gM × Int32) := fX6_inRound_L4 a1 a1n gFU p2 0 m
abbrev rmX6_inRound : Room := { frames := 1, cells := 0, slots := 0, locals := 22 }
set_option maxHeartbeats 4000000 in
set_option maxRecDepth 100000 in
theorem tX6_inRound (l : Launch) (G : gX) (u : gU) (hF : gFull u) (a1 a1n : Nat) (p2 : Int32) (m : gM) (o : gM × Int32) (h : fX6_inRound a1 a1n p2 m = some o) (h1 : gIn u a1 7 a1n) : gMet l G u yX6_inRound (.code yX6_inRound cX6_inRound 5 (some .int)) rmX6_inRound [.ref a1, .int p2] m o.1 (some (.int o.2)) := by
  refine gMet_of (own := RX6) (k := 3) (by decide) rfl ⟨rfl, rfl⟩ (Nat.le_of_ble_eq_true rfl) [some (.ref a1), some (.int p2), none, none, none] rfl (fun Y hG hu hnL hLn hRm he => ?_)
  subst hG hu hLn
  unfold fX6_inRound at h
  refine r_iload_n (pc := 0) dX6_inRound_0 rfl rfl ?_
  refine r_istore_n (pc := 1) dX6_inRound_1 rfl (by rw [hnL]; decide) rfl ?_
  refine r_iconst (pc := 2) (v := 0) dX6_inRound_2 (by decide) ?_
  refine r_istore_n (pc := 3) dX6_inRound_3 rfl (by rw [hnL]; decide) rfl ?_
  have L27 : ∀ (n25 : Nat) (v28 : Int32) (v29 : Int32) (m30 : gM), fX6_inRound_L4 a1 a1n n25 v28 v29 m30 = some o → AW Y cX6_inRound RX6 4 [some (.ref a1), none, some (.int v28), some (.int v29), none] [] m30 := by
    intro n25
    induction n25 with
    | zero =>
      intro v28 v29 m30 h
      exact absurd h (by simp [fX6_inRound_L4])
    | succ n25 ih26 =>
      intro v28 v29 m30 h
      rw [fX6_inRound_L4] at h
      refine r_iload_n (pc := 4) dX6_inRound_4 rfl rfl ?_
      refine r_iconst (pc := 5) (v := 4) dX6_inRound_5 (by decide) ?_
      refine r_icmp_ge (pc := 6) (tgt := 58) dX6_inRound_6 (by decide) h (fun h => ?_) (fun h => ?_)
      · refine r_iconst (pc := 58) (v := (-1)) dX6_inRound_58 (by decide) ?_
        exact r_iretH dX6_inRound_59 h he
      · refine r_iconst (pc := 9) (v := 0) dX6_inRound_9 (by decide) ?_
        refine r_istore (pc := 10) dX6_inRound_10 (by rw [hnL]; decide) rfl ?_
        have L33 : ∀ (n31 : Nat) (v34 : Int32) (v35 : Int32) (m36 : gM), fX6_inRound_L12 a1 a1n v29 (fX6_inRound_L4 a1 a1n n25) n31 v34 v35 m36 = some o → AW Y cX6_inRound RX6 12 [some (.ref a1), none, some (.int v34), some (.int v29), some (.int v35)] [] m36 := by
          intro n31
          induction n31 with
          | zero =>
            intro v34 v35 m36 h
            exact absurd h (by simp [fX6_inRound_L12])
          | succ n31 ih32 =>
            intro v34 v35 m36 h
            rw [fX6_inRound_L12] at h
            refine r_iload (pc := 12) dX6_inRound_12 rfl ?_
            refine r_aload_n (pc := 14) dX6_inRound_14 rfl rfl ?_
            refine r_iconst (pc := 15) (v := 0) dX6_inRound_15 (by decide) ?_
            refine r_iald (pc := 16) dX6_inRound_16 h1 h (fun x37 h => ?_)
            refine r_icmp_ge (pc := 17) (tgt := 52) dX6_inRound_17 (by decide) h (fun h => ?_) (fun h => ?_)
            · refine r_iinc (pc := 52) (d := 1) dX6_inRound_52 rfl (by decide) (by rw [hnL]; decide) h (fun x38 h => ?_)
              refine r_goto (pc := 55) (tgt := 4) dX6_inRound_55 (by decide) ?_
              exact r_mask [true, false, true, true, false] rfl (ih26 _ _ _ h)
            · refine r_aload_n (pc := 20) dX6_inRound_20 rfl rfl ?_
              refine r_iload (pc := 21) dX6_inRound_21 rfl ?_
              refine r_iconst (pc := 23) (v := 0) dX6_inRound_23 (by decide) ?_
              obtain ⟨m39, x40, q41, h⟩ := gCl_some h
              refine r_callS (pc := 24) [.ref _, .int _, .int _] (tX6_of _ _ _ hF _ _ _ _ _ _ q41 h1) ⟨rfl, rfl⟩ cd_X6_of wX6_53 nm_X6_of rfl (by rw [hRm]; decide) rfl (Nat.le_of_ble_eq_true rfl) dX6_inRound_24 ?_
              refine r_aload_n (pc := 27) dX6_inRound_27 rfl rfl ?_
              refine r_bipush (pc := 28) (v := 16) dX6_inRound_28 (by decide) ?_
              refine r_iload_n (pc := 30) dX6_inRound_30 rfl rfl ?_
              refine r_iadd (pc := 31) dX6_inRound_31 ?_
              refine r_iald (pc := 32) dX6_inRound_32 h1 h (fun x42 h => ?_)
              refine r_icmp_ne (pc := 33) (tgt := 46) dX6_inRound_33 (by decide) h (fun h => ?_) (fun h => ?_)
              · refine r_iinc (pc := 46) (d := 1) dX6_inRound_46 rfl (by decide) (by rw [hnL]; decide) h (fun x43 h => ?_)
                refine r_goto (pc := 49) (tgt := 12) dX6_inRound_49 (by decide) ?_
                exact r_mask [true, false, true, true, true] rfl (ih32 _ _ _ h)
              · refine r_iload_n (pc := 36) dX6_inRound_36 rfl rfl ?_
                refine r_if_ne (pc := 37) (tgt := 43) dX6_inRound_37 (by decide) h (fun h => ?_) (fun h => ?_)
                · refine r_iinc (pc := 43) (d := (-1)) dX6_inRound_43 rfl (by decide) (by rw [hnL]; decide) h (fun x44 h => ?_)
                  refine r_iinc (pc := 46) (d := 1) dX6_inRound_46 rfl (by decide) (by rw [hnL]; decide) h (fun x45 h => ?_)
                  refine r_goto (pc := 49) (tgt := 12) dX6_inRound_49 (by decide) ?_
                  exact r_mask [true, false, true, true, true] rfl (ih32 _ _ _ h)
                · refine r_iload (pc := 40) dX6_inRound_40 rfl ?_
                  exact r_iretH dX6_inRound_42 h he
        exact r_mask [true, false, true, true, true] rfl (L33 _ _ _ _ h)
  exact r_mask [true, false, true, true, false] rfl (L27 _ _ _ _ h)
def fX6_giveDue (a1 a1n : Nat) (p2 : Int32) (p3 : Int32) (p4 : Int32) (m : gM) : Option (gM × Int32) := gCl (fX6_dueOn a1 a1n p2 p3 m) fun m1 x2 => gCl (fX6_isOpen a1 a1n p2 p3 m1) fun m4 x5 => (if x5 = 0 then gRd m4 a1 a1n 7 fun x209 => gRd m4 a1 a1n 15 fun x210 => gWr m4 a1 a1n 7 (x209 + (x2 * x210)) fun m211 => gRd m211 a1 a1n 3 fun x212 => gWr m211 a1 a1n 3 (x212 + 0) fun m213 => gCv (fX6_add a1 a1n p2 9 0 m213) fun m214 => gCv (fX6_add a1 a1n p2 8 (x2 - 0) m214) fun m217 => (if x2 ≤ 0 then (if (0 : Int32) ≤ 0 then gRd m217 a1 a1n 9 fun x220 => gWr m217 a1 a1n 9 (x220 + 0) fun m221 => gRd m221 a1 a1n 10 fun x222 => gWr m221 a1 a1n 10 (x222 + 0) fun m223 => gCv (fX6_add a1 a1n p2 12 0 m223) fun m224 => gCv (fX6_add a1 a1n p2 13 0 m224) fun m227 => some (m227, (p4 - 0)) else (if x2 ≤ (0 : Int32) then gRd m217 a1 a1n 9 fun x230 => gWr m217 a1 a1n 9 (x230 + 0) fun m231 => gRd m231 a1 a1n 10 fun x232 => gWr m231 a1 a1n 10 (x232 + 0) fun m233 => gCv (fX6_add a1 a1n p2 12 0 m233) fun m234 => gCv (fX6_add a1 a1n p2 13 0 m234) fun m237 => some (m237, (p4 - 0)) else gRd m217 a1 a1n 9 fun x240 => gWr m217 a1 a1n 9 (x240 + 0) fun m241 => gRd m241 a1 a1n 10 fun x242 => gWr m241 a1 a1n 10 (x242 + 1) fun m243 => gCv (fX6_add a1 a1n p2 12 0 m243) fun m244 => gCv (fX6_add a1 a1n p2 13 1 m244) fun m247 => some (m247, (p4 - 0)))) else (if (0 : Int32) = 0 then (if (0 : Int32) ≤ 0 then gRd m217 a1 a1n 9 fun x280 => gWr m217 a1 a1n 9 (x280 + 1) fun m281 => gRd m281 a1 a1n 10 fun x282 => gWr m281 a1 a1n 10 (x282 + 0) fun m283 => gCv (fX6_add a1 a1n p2 12 1 m283) fun m284 => gCv (fX6_add a1 a1n p2 13 0 m284) fun m287 => some (m287, (p4 - 0)) else (if x2 ≤ (0 : Int32) then gRd m217 a1 a1n 9 fun x290 => gWr m217 a1 a1n 9 (x290 + 1) fun m291 => gRd m291 a1 a1n 10 fun x292 => gWr m291 a1 a1n 10 (x292 + 0) fun m293 => gCv (fX6_add a1 a1n p2 12 1 m293) fun m294 => gCv (fX6_add a1 a1n p2 13 0 m294) fun m297 => some (m297, (p4 - 0)) else gRd m217 a1 a1n 9 fun x300 => gWr m217 a1 a1n 9 (x300 + 1) fun m301 => gRd m301 a1 a1n 10 fun x302 => gWr m301 a1 a1n 10 (x302 + 1) fun m303 => gCv (fX6_add a1 a1n p2 12 1 m303) fun m304 => gCv (fX6_add a1 a1n p2 13 1 m304) fun m307 => some (m307, (p4 - 0)))) else (if (0 : Int32) ≤ 0 then gRd m217 a1 a1n 9 fun x250 => gWr m217 a1 a1n 9 (x250 + 0) fun m251 => gRd m251 a1 a1n 10 fun x252 => gWr m251 a1 a1n 10 (x252 + 0) fun m253 => gCv (fX6_add a1 a1n p2 12 0 m253) fun m254 => gCv (fX6_add a1 a1n p2 13 0 m254) fun m257 => some (m257, (p4 - 0)) else (if x2 ≤ (0 : Int32) then gRd m217 a1 a1n 9 fun x260 => gWr m217 a1 a1n 9 (x260 + 0) fun m261 => gRd m261 a1 a1n 10 fun x262 => gWr m261 a1 a1n 10 (x262 + 0) fun m263 => gCv (fX6_add a1 a1n p2 12 0 m263) fun m264 => gCv (fX6_add a1 a1n p2 13 0 m264) fun m267 => some (m267, (p4 - 0)) else gRd m217 a1 a1n 9 fun x270 => gWr m217 a1 a1n 9 (x270 + 0) fun m271 => gRd m271 a1 a1n 10 fun x272 => gWr m271 a1 a1n 10 (x272 + 1) fun m273 => gCv (fX6_add a1 a1n p2 12 0 m273) fun m274 => gCv (fX6_add a1 a1n p2 13 1 m274) fun m277 => some (m277, (p4 - 0)))))) else (if p4 ≤ x2 then gRd m4 a1 a1n 7 fun x7 => gRd m4 a1 a1n 15 fun x8 => gWr m4 a1 a1n 7 (x7 + (x2 * x8)) fun m9 => gRd m9 a1 a1n 3 fun x10 => gWr m9 a1 a1n 3 (x10 + p4) fun m11 => gCv (fX6_add a1 a1n p2 9 p4 m11) fun m12 => gCv (fX6_add a1 a1n p2 8 (x2 - p4) m12) fun m15 => (if x2 ≤ 0 then (if p4 ≤ 0 then gRd m15 a1 a1n 9 fun x18 => gWr m15 a1 a1n 9 (x18 + 0) fun m19 => gRd m19 a1 a1n 10 fun x20 => gWr m19 a1 a1n 10 (x20 + 0) fun m21 => gCv (fX6_add a1 a1n p2 12 0 m21) fun m22 => gCv (fX6_add a1 a1n p2 13 0 m22) fun m25 => some (m25, (p4 - p4)) else (if x2 ≤ p4 then gRd m15 a1 a1n 9 fun x28 => gWr m15 a1 a1n 9 (x28 + 0) fun m29 => gRd m29 a1 a1n 10 fun x30 => gWr m29 a1 a1n 10 (x30 + 0) fun m31 => gCv (fX6_add a1 a1n p2 12 0 m31) fun m32 => gCv (fX6_add a1 a1n p2 13 0 m32) fun m35 => some (m35, (p4 - p4)) else gRd m15 a1 a1n 9 fun x38 => gWr m15 a1 a1n 9 (x38 + 0) fun m39 => gRd m39 a1 a1n 10 fun x40 => gWr m39 a1 a1n 10 (x40 + 1) fun m41 => gCv (fX6_add a1 a1n p2 12 0 m41) fun m42 => gCv (fX6_add a1 a1n p2 13 1 m42) fun m45 => some (m45, (p4 - p4)))) else (if p4 = 0 then (if p4 ≤ 0 then gRd m15 a1 a1n 9 fun x78 => gWr m15 a1 a1n 9 (x78 + 1) fun m79 => gRd m79 a1 a1n 10 fun x80 => gWr m79 a1 a1n 10 (x80 + 0) fun m81 => gCv (fX6_add a1 a1n p2 12 1 m81) fun m82 => gCv (fX6_add a1 a1n p2 13 0 m82) fun m85 => some (m85, (p4 - p4)) else (if x2 ≤ p4 then gRd m15 a1 a1n 9 fun x88 => gWr m15 a1 a1n 9 (x88 + 1) fun m89 => gRd m89 a1 a1n 10 fun x90 => gWr m89 a1 a1n 10 (x90 + 0) fun m91 => gCv (fX6_add a1 a1n p2 12 1 m91) fun m92 => gCv (fX6_add a1 a1n p2 13 0 m92) fun m95 => some (m95, (p4 - p4)) else gRd m15 a1 a1n 9 fun x98 => gWr m15 a1 a1n 9 (x98 + 1) fun m99 => gRd m99 a1 a1n 10 fun x100 => gWr m99 a1 a1n 10 (x100 + 1) fun m101 => gCv (fX6_add a1 a1n p2 12 1 m101) fun m102 => gCv (fX6_add a1 a1n p2 13 1 m102) fun m105 => some (m105, (p4 - p4)))) else (if p4 ≤ 0 then gRd m15 a1 a1n 9 fun x48 => gWr m15 a1 a1n 9 (x48 + 0) fun m49 => gRd m49 a1 a1n 10 fun x50 => gWr m49 a1 a1n 10 (x50 + 0) fun m51 => gCv (fX6_add a1 a1n p2 12 0 m51) fun m52 => gCv (fX6_add a1 a1n p2 13 0 m52) fun m55 => some (m55, (p4 - p4)) else (if x2 ≤ p4 then gRd m15 a1 a1n 9 fun x58 => gWr m15 a1 a1n 9 (x58 + 0) fun m59 => gRd m59 a1 a1n 10 fun x60 => gWr m59 a1 a1n 10 (x60 + 0) fun m61 => gCv (fX6_add a1 a1n p2 12 0 m61) fun m62 => gCv (fX6_add a1 a1n p2 13 0 m62) fun m65 => some (m65, (p4 - p4)) else gRd m15 a1 a1n 9 fun x68 => gWr m15 a1 a1n 9 (x68 + 0) fun m69 => gRd m69 a1 a1n 10 fun x70 => gWr m69 a1 a1n 10 (x70 + 1) fun m71 => gCv (fX6_add a1 a1n p2 12 0 m71) fun m72 => gCv (fX6_add a1 a1n p2 13 1 m72) fun m75 => some (m75, (p4 - p4)))))) else gRd m4 a1 a1n 7 fun x108 => gRd m4 a1 a1n 15 fun x109 => gWr m4 a1 a1n 7 (x108 + (x2 * x109)) fun m110 => gRd m110 a1 a1n 3 fun x111 => gWr m110 a1 a1n 3 (x111 + x2) fun m112 => gCv (fX6_add a1 a1n p2 9 x2 m112) fun m113 => gCv (fX6_add a1 a1n p2 8 (x2 - x2) m113) fun m116 => (if x2 ≤ 0 then (if x2 ≤ 0 then gRd m116 a1 a1n 9 fun x119 => gWr m116 a1 a1n 9 (x119 + 0) fun m120 => gRd m120 a1 a1n 10 fun x121 => gWr m120 a1 a1n 10 (x121 + 0) fun m122 => gCv (fX6_add a1 a1n p2 12 0 m122) fun m123 => gCv (fX6_add a1 a1n p2 13 0 m123) fun m126 => some (m126, (p4 - x2)) else (if x2 ≤ x2 then gRd m116 a1 a1n 9 fun x129 => gWr m116 a1 a1n 9 (x129 + 0) fun m130 => gRd m130 a1 a1n 10 fun x131 => gWr m130 a1 a1n 10 (x131 + 0) fun m132 => gCv (fX6_add a1 a1n p2 12 0 m132) fun m133 => gCv (fX6_add a1 a1n p2 13 0 m133) fun m136 => some (m136, (p4 - x2)) else gRd m116 a1 a1n 9 fun x139 => gWr m116 a1 a1n 9 (x139 + 0) fun m140 => gRd m140 a1 a1n 10 fun x141 => gWr m140 a1 a1n 10 (x141 + 1) fun m142 => gCv (fX6_add a1 a1n p2 12 0 m142) fun m143 => gCv (fX6_add a1 a1n p2 13 1 m143) fun m146 => some (m146, (p4 - x2)))) else (if x2 = 0 then (if x2 ≤ 0 then gRd m116 a1 a1n 9 fun x179 => gWr m116 a1 a1n 9 (x179 + 1) fun m180 => gRd m180 a1 a1n 10 fun x181 => gWr m180 a1 a1n 10 (x181 + 0) fun m182 => gCv (fX6_add a1 a1n p2 12 1 m182) fun m183 => gCv (fX6_add a1 a1n p2 13 0 m183) fun m186 => some (m186, (p4 - x2)) else (if x2 ≤ x2 then gRd m116 a1 a1n 9 fun x189 => gWr m116 a1 a1n 9 (x189 + 1) fun m190 => gRd m190 a1 a1n 10 fun x191 => gWr m190 a1 a1n 10 (x191 + 0) fun m192 => gCv (fX6_add a1 a1n p2 12 1 m192) fun m193 => gCv (fX6_add a1 a1n p2 13 0 m193) fun m196 => some (m196, (p4 - x2)) else gRd m116 a1 a1n 9 fun x199 => gWr m116 a1 a1n 9 (x199 + 1) fun m200 => gRd m200 a1 a1n 10 fun x201 => gWr m200 a1 a1n 10 (x201 + 1) fun m202 => gCv (fX6_add a1 a1n p2 12 1 m202) fun m203 => gCv (fX6_add a1 a1n p2 13 1 m203) fun m206 => some (m206, (p4 - x2)))) else (if x2 ≤ 0 then gRd m116 a1 a1n 9 fun x149 => gWr m116 a1 a1n 9 (x149 + 0) fun m150 => gRd m150 a1 a1n 10 fun x151 => gWr m150 a1 a1n 10 (x151 + 0) fun m152 => gCv (fX6_add a1 a1n p2 12 0 m152) fun m153 => gCv (fX6_add a1 a1n p2 13 0 m153) fun m156 => some (m156, (p4 - x2)) else (if x2 ≤ x2 then gRd m116 a1 a1n 9 fun x159 => gWr m116 a1 a1n 9 (x159 + 0) fun m160 => gRd m160 a1 a1n 10 fun x161 => gWr m160 a1 a1n 10 (x161 + 0) fun m162 => gCv (fX6_add a1 a1n p2 12 0 m162) fun m163 => gCv (fX6_add a1 a1n p2 13 0 m163) fun m166 => some (m166, (p4 - x2)) else gRd m116 a1 a1n 9 fun x169 => gWr m116 a1 a1n 9 (x169 + 0) fun m170 => gRd m170 a1 a1n 10 fun x171 => gWr m170 a1 a1n 10 (x171 + 1) fun m172 => gCv (fX6_add a1 a1n p2 12 0 m172) fun m173 => gCv (fX6_add a1 a1n p2 13 1 m173) fun m176 => some (m176, (p4 - x2))))))))
abbrev rmX6_giveDue : Room := { frames := 3, cells := 0, slots := 0, locals := 71 }
set_option maxHeartbeats 4000000 in
set_option maxRecDepth 100000 in
theorem tX6_giveDue (l : Launch) (G : gX) (u : gU) (hF : gFull u) (a1 a1n : Nat) (p2 : Int32) (p3 : Int32) (p4 : Int32) (m : gM) (o : gM × Int32) (h : fX6_giveDue a1 a1n p2 p3 p4 m = some o) (h1 : gIn u a1 7 a1n) : gMet l G u yX6_giveDue (.code yX6_giveDue cX6_giveDue 8 (some .int)) rmX6_giveDue [.ref a1, .int p2, .int p3, .int p4] m o.1 (some (.int o.2)) := by
  refine gMet_of (own := RX6) (k := 4) (by decide) rfl ⟨rfl, rfl⟩ (Nat.le_of_ble_eq_true rfl) [some (.ref a1), some (.int p2), some (.int p3), some (.int p4), none, none, none, none] rfl (fun Y hG hu hnL hLn hRm he => ?_)
  subst hG hu hLn
  unfold fX6_giveDue at h
  refine r_aload_n (pc := 0) dX6_giveDue_0 rfl rfl ?_
  refine r_iload_n (pc := 1) dX6_giveDue_1 rfl rfl ?_
  refine r_iload_n (pc := 2) dX6_giveDue_2 rfl rfl ?_
  obtain ⟨m1, x2, q3, h⟩ := gCl_some h
  refine r_callS (pc := 3) [.ref _, .int _, .int _] (tX6_dueOn _ _ _ hF _ _ _ _ _ _ q3 h1) ⟨rfl, rfl⟩ cd_X6_dueOn wX6_61 nm_X6_dueOn rfl (by rw [hRm]; decide) rfl (Nat.le_of_ble_eq_true rfl) dX6_giveDue_3 ?_
  refine r_istore (pc := 6) dX6_giveDue_6 (by rw [hnL]; decide) rfl ?_
  refine r_aload_n (pc := 8) dX6_giveDue_8 rfl rfl ?_
  refine r_iload_n (pc := 9) dX6_giveDue_9 rfl rfl ?_
  refine r_iload_n (pc := 10) dX6_giveDue_10 rfl rfl ?_
  obtain ⟨m4, x5, q6, h⟩ := gCl_some h
  refine r_callS (pc := 11) [.ref _, .int _, .int _] (tX6_isOpen _ _ _ hF _ _ _ _ _ _ q6 h1) ⟨rfl, rfl⟩ cd_X6_isOpen wX6_68 nm_X6_isOpen rfl (by rw [hRm]; decide) rfl (Nat.le_of_ble_eq_true rfl) dX6_giveDue_11 ?_
  refine r_if_ne (pc := 14) (tgt := 21) dX6_giveDue_14 (by decide) h (fun h => ?_) (fun h => ?_)
  · refine r_iload (pc := 21) dX6_giveDue_21 rfl ?_
    refine r_iload_n (pc := 23) dX6_giveDue_23 rfl rfl ?_
    refine r_icmp_ge (pc := 24) (tgt := 32) dX6_giveDue_24 (by decide) h (fun h => ?_) (fun h => ?_)
    · refine r_iload_n (pc := 32) dX6_giveDue_32 rfl rfl ?_
      refine r_istore (pc := 33) dX6_giveDue_33 (by rw [hnL]; decide) rfl ?_
      refine r_aload_n (pc := 35) dX6_giveDue_35 rfl rfl ?_
      refine r_bipush (pc := 36) (v := 7) dX6_giveDue_36 (by decide) ?_
      refine r_dup2 (pc := 38) dX6_giveDue_38 rfl rfl ?_
      refine r_iald (pc := 39) dX6_giveDue_39 h1 h (fun x7 h => ?_)
      refine r_iload (pc := 40) dX6_giveDue_40 rfl ?_
      refine r_aload_n (pc := 42) dX6_giveDue_42 rfl rfl ?_
      refine r_bipush (pc := 43) (v := 15) dX6_giveDue_43 (by decide) ?_
      refine r_iald (pc := 45) dX6_giveDue_45 h1 h (fun x8 h => ?_)
      refine r_imul (pc := 46) dX6_giveDue_46 ?_
      refine r_iadd (pc := 47) dX6_giveDue_47 ?_
      refine r_iast (pc := 48) dX6_giveDue_48 h1 h (fun m9 h => ?_)
      refine r_aload_n (pc := 49) dX6_giveDue_49 rfl rfl ?_
      refine r_iconst (pc := 50) (v := 3) dX6_giveDue_50 (by decide) ?_
      refine r_dup2 (pc := 51) dX6_giveDue_51 rfl rfl ?_
      refine r_iald (pc := 52) dX6_giveDue_52 h1 h (fun x10 h => ?_)
      refine r_iload (pc := 53) dX6_giveDue_53 rfl ?_
      refine r_iadd (pc := 55) dX6_giveDue_55 ?_
      refine r_iast (pc := 56) dX6_giveDue_56 h1 h (fun m11 h => ?_)
      refine r_aload_n (pc := 57) dX6_giveDue_57 rfl rfl ?_
      refine r_iload_n (pc := 58) dX6_giveDue_58 rfl rfl ?_
      refine r_bipush (pc := 59) (v := 9) dX6_giveDue_59 (by decide) ?_
      refine r_iload (pc := 61) dX6_giveDue_61 rfl ?_
      obtain ⟨m12, q14, h⟩ := gCv_some h
      refine r_callS (pc := 63) [.ref _, .int _, .int _, .int _] (tX6_add _ _ _ hF _ _ _ _ _ _ _ q14 h1) ⟨rfl, rfl⟩ cd_X6_add wX6_71 nm_X6_add rfl (by rw [hRm]; decide) rfl (Nat.le_of_ble_eq_true rfl) dX6_giveDue_63 ?_
      refine r_aload_n (pc := 66) dX6_giveDue_66 rfl rfl ?_
      refine r_iload_n (pc := 67) dX6_giveDue_67 rfl rfl ?_
      refine r_bipush (pc := 68) (v := 8) dX6_giveDue_68 (by decide) ?_
      refine r_iload (pc := 70) dX6_giveDue_70 rfl ?_
      refine r_iload (pc := 72) dX6_giveDue_72 rfl ?_
      refine r_isub (pc := 74) dX6_giveDue_74 ?_
      obtain ⟨m15, q17, h⟩ := gCv_some h
      refine r_callS (pc := 75) [.ref _, .int _, .int _, .int _] (tX6_add _ _ _ hF _ _ _ _ _ _ _ q17 h1) ⟨rfl, rfl⟩ cd_X6_add wX6_71 nm_X6_add rfl (by rw [hRm]; decide) rfl (Nat.le_of_ble_eq_true rfl) dX6_giveDue_75 ?_
      refine r_iload (pc := 78) dX6_giveDue_78 rfl ?_
      refine r_if_le (pc := 80) (tgt := 92) dX6_giveDue_80 (by decide) h (fun h => ?_) (fun h => ?_)
      · refine r_iconst (pc := 92) (v := 0) dX6_giveDue_92 (by decide) ?_
        refine r_istore (pc := 93) dX6_giveDue_93 (by rw [hnL]; decide) rfl ?_
        refine r_iload (pc := 95) dX6_giveDue_95 rfl ?_
        refine r_if_le (pc := 97) (tgt := 111) dX6_giveDue_97 (by decide) h (fun h => ?_) (fun h => ?_)
        · refine r_iconst (pc := 111) (v := 0) dX6_giveDue_111 (by decide) ?_
          refine r_istore (pc := 112) dX6_giveDue_112 (by rw [hnL]; decide) rfl ?_
          refine r_aload_n (pc := 114) dX6_giveDue_114 rfl rfl ?_
          refine r_bipush (pc := 115) (v := 9) dX6_giveDue_115 (by decide) ?_
          refine r_dup2 (pc := 117) dX6_giveDue_117 rfl rfl ?_
          refine r_iald (pc := 118) dX6_giveDue_118 h1 h (fun x18 h => ?_)
          refine r_iload (pc := 119) dX6_giveDue_119 rfl ?_
          refine r_iadd (pc := 121) dX6_giveDue_121 ?_
          refine r_iast (pc := 122) dX6_giveDue_122 h1 h (fun m19 h => ?_)
          refine r_aload_n (pc := 123) dX6_giveDue_123 rfl rfl ?_
          refine r_bipush (pc := 124) (v := 10) dX6_giveDue_124 (by decide) ?_
          refine r_dup2 (pc := 126) dX6_giveDue_126 rfl rfl ?_
          refine r_iald (pc := 127) dX6_giveDue_127 h1 h (fun x20 h => ?_)
          refine r_iload (pc := 128) dX6_giveDue_128 rfl ?_
          refine r_iadd (pc := 130) dX6_giveDue_130 ?_
          refine r_iast (pc := 131) dX6_giveDue_131 h1 h (fun m21 h => ?_)
          refine r_aload_n (pc := 132) dX6_giveDue_132 rfl rfl ?_
          refine r_iload_n (pc := 133) dX6_giveDue_133 rfl rfl ?_
          refine r_bipush (pc := 134) (v := 12) dX6_giveDue_134 (by decide) ?_
          refine r_iload (pc := 136) dX6_giveDue_136 rfl ?_
          obtain ⟨m22, q24, h⟩ := gCv_some h
          refine r_callS (pc := 138) [.ref _, .int _, .int _, .int _] (tX6_add _ _ _ hF _ _ _ _ _ _ _ q24 h1) ⟨rfl, rfl⟩ cd_X6_add wX6_71 nm_X6_add rfl (by rw [hRm]; decide) rfl (Nat.le_of_ble_eq_true rfl) dX6_giveDue_138 ?_
          refine r_aload_n (pc := 141) dX6_giveDue_141 rfl rfl ?_
          refine r_iload_n (pc := 142) dX6_giveDue_142 rfl rfl ?_
          refine r_bipush (pc := 143) (v := 13) dX6_giveDue_143 (by decide) ?_
          refine r_iload (pc := 145) dX6_giveDue_145 rfl ?_
          obtain ⟨m25, q27, h⟩ := gCv_some h
          refine r_callS (pc := 147) [.ref _, .int _, .int _, .int _] (tX6_add _ _ _ hF _ _ _ _ _ _ _ q27 h1) ⟨rfl, rfl⟩ cd_X6_add wX6_71 nm_X6_add rfl (by rw [hRm]; decide) rfl (Nat.le_of_ble_eq_true rfl) dX6_giveDue_147 ?_
          refine r_iload_n (pc := 150) dX6_giveDue_150 rfl rfl ?_
          refine r_iload (pc := 151) dX6_giveDue_151 rfl ?_
          refine r_isub (pc := 153) dX6_giveDue_153 ?_
          exact r_iretH dX6_giveDue_154 h he
        · refine r_iload (pc := 100) dX6_giveDue_100 rfl ?_
          refine r_iload (pc := 102) dX6_giveDue_102 rfl ?_
          refine r_icmp_ge (pc := 104) (tgt := 111) dX6_giveDue_104 (by decide) h (fun h => ?_) (fun h => ?_)
          · refine r_iconst (pc := 111) (v := 0) dX6_giveDue_111 (by decide) ?_
            refine r_istore (pc := 112) dX6_giveDue_112 (by rw [hnL]; decide) rfl ?_
            refine r_aload_n (pc := 114) dX6_giveDue_114 rfl rfl ?_
            refine r_bipush (pc := 115) (v := 9) dX6_giveDue_115 (by decide) ?_
            refine r_dup2 (pc := 117) dX6_giveDue_117 rfl rfl ?_
            refine r_iald (pc := 118) dX6_giveDue_118 h1 h (fun x28 h => ?_)
            refine r_iload (pc := 119) dX6_giveDue_119 rfl ?_
            refine r_iadd (pc := 121) dX6_giveDue_121 ?_
            refine r_iast (pc := 122) dX6_giveDue_122 h1 h (fun m29 h => ?_)
            refine r_aload_n (pc := 123) dX6_giveDue_123 rfl rfl ?_
            refine r_bipush (pc := 124) (v := 10) dX6_giveDue_124 (by decide) ?_
            refine r_dup2 (pc := 126) dX6_giveDue_126 rfl rfl ?_
            refine r_iald (pc := 127) dX6_giveDue_127 h1 h (fun x30 h => ?_)
            refine r_iload (pc := 128) dX6_giveDue_128 rfl ?_
            refine r_iadd (pc := 130) dX6_giveDue_130 ?_
            refine r_iast (pc := 131) dX6_giveDue_131 h1 h (fun m31 h => ?_)
            refine r_aload_n (pc := 132) dX6_giveDue_132 rfl rfl ?_
            refine r_iload_n (pc := 133) dX6_giveDue_133 rfl rfl ?_
            refine r_bipush (pc := 134) (v := 12) dX6_giveDue_134 (by decide) ?_
            refine r_iload (pc := 136) dX6_giveDue_136 rfl ?_
            obtain ⟨m32, q34, h⟩ := gCv_some h
            refine r_callS (pc := 138) [.ref _, .int _, .int _, .int _] (tX6_add _ _ _ hF _ _ _ _ _ _ _ q34 h1) ⟨rfl, rfl⟩ cd_X6_add wX6_71 nm_X6_add rfl (by rw [hRm]; decide) rfl (Nat.le_of_ble_eq_true rfl) dX6_giveDue_138 ?_
            refine r_aload_n (pc := 141) dX6_giveDue_141 rfl rfl ?_
            refine r_iload_n (pc := 142) dX6_giveDue_142 rfl rfl ?_
            refine r_bipush (pc := 143) (v := 13) dX6_giveDue_143 (by decide) ?_
            refine r_iload (pc := 145) dX6_giveDue_145 rfl ?_
            obtain ⟨m35, q37, h⟩ := gCv_some h
            refine r_callS (pc := 147) [.ref _, .int _, .int _, .int _] (tX6_add _ _ _ hF _ _ _ _ _ _ _ q37 h1) ⟨rfl, rfl⟩ cd_X6_add wX6_71 nm_X6_add rfl (by rw [hRm]; decide) rfl (Nat.le_of_ble_eq_true rfl) dX6_giveDue_147 ?_
            refine r_iload_n (pc := 150) dX6_giveDue_150 rfl rfl ?_
            refine r_iload (pc := 151) dX6_giveDue_151 rfl ?_
            refine r_isub (pc := 153) dX6_giveDue_153 ?_
            exact r_iretH dX6_giveDue_154 h he
          · refine r_iconst (pc := 107) (v := 1) dX6_giveDue_107 (by decide) ?_
            refine r_goto (pc := 108) (tgt := 112) dX6_giveDue_108 (by decide) ?_
            refine r_istore (pc := 112) dX6_giveDue_112 (by rw [hnL]; decide) rfl ?_
            refine r_aload_n (pc := 114) dX6_giveDue_114 rfl rfl ?_
            refine r_bipush (pc := 115) (v := 9) dX6_giveDue_115 (by decide) ?_
            refine r_dup2 (pc := 117) dX6_giveDue_117 rfl rfl ?_
            refine r_iald (pc := 118) dX6_giveDue_118 h1 h (fun x38 h => ?_)
            refine r_iload (pc := 119) dX6_giveDue_119 rfl ?_
            refine r_iadd (pc := 121) dX6_giveDue_121 ?_
            refine r_iast (pc := 122) dX6_giveDue_122 h1 h (fun m39 h => ?_)
            refine r_aload_n (pc := 123) dX6_giveDue_123 rfl rfl ?_
            refine r_bipush (pc := 124) (v := 10) dX6_giveDue_124 (by decide) ?_
            refine r_dup2 (pc := 126) dX6_giveDue_126 rfl rfl ?_
            refine r_iald (pc := 127) dX6_giveDue_127 h1 h (fun x40 h => ?_)
            refine r_iload (pc := 128) dX6_giveDue_128 rfl ?_
            refine r_iadd (pc := 130) dX6_giveDue_130 ?_
            refine r_iast (pc := 131) dX6_giveDue_131 h1 h (fun m41 h => ?_)
            refine r_aload_n (pc := 132) dX6_giveDue_132 rfl rfl ?_
            refine r_iload_n (pc := 133) dX6_giveDue_133 rfl rfl ?_
            refine r_bipush (pc := 134) (v := 12) dX6_giveDue_134 (by decide) ?_
            refine r_iload (pc := 136) dX6_giveDue_136 rfl ?_
            obtain ⟨m42, q44, h⟩ := gCv_some h
            refine r_callS (pc := 138) [.ref _, .int _, .int _, .int _] (tX6_add _ _ _ hF _ _ _ _ _ _ _ q44 h1) ⟨rfl, rfl⟩ cd_X6_add wX6_71 nm_X6_add rfl (by rw [hRm]; decide) rfl (Nat.le_of_ble_eq_true rfl) dX6_giveDue_138 ?_
            refine r_aload_n (pc := 141) dX6_giveDue_141 rfl rfl ?_
            refine r_iload_n (pc := 142) dX6_giveDue_142 rfl rfl ?_
            refine r_bipush (pc := 143) (v := 13) dX6_giveDue_143 (by decide) ?_
            refine r_iload (pc := 145) dX6_giveDue_145 rfl ?_
            obtain ⟨m45, q47, h⟩ := gCv_some h
            refine r_callS (pc := 147) [.ref _, .int _, .int _, .int _] (tX6_add _ _ _ hF _ _ _ _ _ _ _ q47 h1) ⟨rfl, rfl⟩ cd_X6_add wX6_71 nm_X6_add rfl (by rw [hRm]; decide) rfl (Nat.le_of_ble_eq_true rfl) dX6_giveDue_147 ?_
            refine r_iload_n (pc := 150) dX6_giveDue_150 rfl rfl ?_
            refine r_iload (pc := 151) dX6_giveDue_151 rfl ?_
            refine r_isub (pc := 153) dX6_giveDue_153 ?_
            exact r_iretH dX6_giveDue_154 h he
      · refine r_iload (pc := 83) dX6_giveDue_83 rfl ?_
        refine r_if_ne (pc := 85) (tgt := 92) dX6_giveDue_85 (by decide) h (fun h => ?_) (fun h => ?_)
        · refine r_iconst (pc := 92) (v := 0) dX6_giveDue_92 (by decide) ?_
          refine r_istore (pc := 93) dX6_giveDue_93 (by rw [hnL]; decide) rfl ?_
          refine r_iload (pc := 95) dX6_giveDue_95 rfl ?_
          refine r_if_le (pc := 97) (tgt := 111) dX6_giveDue_97 (by decide) h (fun h => ?_) (fun h => ?_)
          · refine r_iconst (pc := 111) (v := 0) dX6_giveDue_111 (by decide) ?_
            refine r_istore (pc := 112) dX6_giveDue_112 (by rw [hnL]; decide) rfl ?_
            refine r_aload_n (pc := 114) dX6_giveDue_114 rfl rfl ?_
            refine r_bipush (pc := 115) (v := 9) dX6_giveDue_115 (by decide) ?_
            refine r_dup2 (pc := 117) dX6_giveDue_117 rfl rfl ?_
            refine r_iald (pc := 118) dX6_giveDue_118 h1 h (fun x48 h => ?_)
            refine r_iload (pc := 119) dX6_giveDue_119 rfl ?_
            refine r_iadd (pc := 121) dX6_giveDue_121 ?_
            refine r_iast (pc := 122) dX6_giveDue_122 h1 h (fun m49 h => ?_)
            refine r_aload_n (pc := 123) dX6_giveDue_123 rfl rfl ?_
            refine r_bipush (pc := 124) (v := 10) dX6_giveDue_124 (by decide) ?_
            refine r_dup2 (pc := 126) dX6_giveDue_126 rfl rfl ?_
            refine r_iald (pc := 127) dX6_giveDue_127 h1 h (fun x50 h => ?_)
            refine r_iload (pc := 128) dX6_giveDue_128 rfl ?_
            refine r_iadd (pc := 130) dX6_giveDue_130 ?_
            refine r_iast (pc := 131) dX6_giveDue_131 h1 h (fun m51 h => ?_)
            refine r_aload_n (pc := 132) dX6_giveDue_132 rfl rfl ?_
            refine r_iload_n (pc := 133) dX6_giveDue_133 rfl rfl ?_
            refine r_bipush (pc := 134) (v := 12) dX6_giveDue_134 (by decide) ?_
            refine r_iload (pc := 136) dX6_giveDue_136 rfl ?_
            obtain ⟨m52, q54, h⟩ := gCv_some h
            refine r_callS (pc := 138) [.ref _, .int _, .int _, .int _] (tX6_add _ _ _ hF _ _ _ _ _ _ _ q54 h1) ⟨rfl, rfl⟩ cd_X6_add wX6_71 nm_X6_add rfl (by rw [hRm]; decide) rfl (Nat.le_of_ble_eq_true rfl) dX6_giveDue_138 ?_
            refine r_aload_n (pc := 141) dX6_giveDue_141 rfl rfl ?_
            refine r_iload_n (pc := 142) dX6_giveDue_142 rfl rfl ?_
            refine r_bipush (pc := 143) (v := 13) dX6_giveDue_143 (by decide) ?_
            refine r_iload (pc := 145) dX6_giveDue_145 rfl ?_
            obtain ⟨m55, q57, h⟩ := gCv_some h
            refine r_callS (pc := 147) [.ref _, .int _, .int _, .int _] (tX6_add _ _ _ hF _ _ _ _ _ _ _ q57 h1) ⟨rfl, rfl⟩ cd_X6_add wX6_71 nm_X6_add rfl (by rw [hRm]; decide) rfl (Nat.le_of_ble_eq_true rfl) dX6_giveDue_147 ?_
            refine r_iload_n (pc := 150) dX6_giveDue_150 rfl rfl ?_
            refine r_iload (pc := 151) dX6_giveDue_151 rfl ?_
            refine r_isub (pc := 153) dX6_giveDue_153 ?_
            exact r_iretH dX6_giveDue_154 h he
          · refine r_iload (pc := 100) dX6_giveDue_100 rfl ?_
            refine r_iload (pc := 102) dX6_giveDue_102 rfl ?_
            refine r_icmp_ge (pc := 104) (tgt := 111) dX6_giveDue_104 (by decide) h (fun h => ?_) (fun h => ?_)
            · refine r_iconst (pc := 111) (v := 0) dX6_giveDue_111 (by decide) ?_
              refine r_istore (pc := 112) dX6_giveDue_112 (by rw [hnL]; decide) rfl ?_
              refine r_aload_n (pc := 114) dX6_giveDue_114 rfl rfl ?_
              refine r_bipush (pc := 115) (v := 9) dX6_giveDue_115 (by decide) ?_
              refine r_dup2 (pc := 117) dX6_giveDue_117 rfl rfl ?_
              refine r_iald (pc := 118) dX6_giveDue_118 h1 h (fun x58 h => ?_)
              refine r_iload (pc := 119) dX6_giveDue_119 rfl ?_
              refine r_iadd (pc := 121) dX6_giveDue_121 ?_
              refine r_iast (pc := 122) dX6_giveDue_122 h1 h (fun m59 h => ?_)
              refine r_aload_n (pc := 123) dX6_giveDue_123 rfl rfl ?_
              refine r_bipush (pc := 124) (v := 10) dX6_giveDue_124 (by decide) ?_
              refine r_dup2 (pc := 126) dX6_giveDue_126 rfl rfl ?_
              refine r_iald (pc := 127) dX6_giveDue_127 h1 h (fun x60 h => ?_)
              refine r_iload (pc := 128) dX6_giveDue_128 rfl ?_
              refine r_iadd (pc := 130) dX6_giveDue_130 ?_
              refine r_iast (pc := 131) dX6_giveDue_131 h1 h (fun m61 h => ?_)
              refine r_aload_n (pc := 132) dX6_giveDue_132 rfl rfl ?_
              refine r_iload_n (pc := 133) dX6_giveDue_133 rfl rfl ?_
              refine r_bipush (pc := 134) (v := 12) dX6_giveDue_134 (by decide) ?_
              refine r_iload (pc := 136) dX6_giveDue_136 rfl ?_
              obtain ⟨m62, q64, h⟩ := gCv_some h
              refine r_callS (pc := 138) [.ref _, .int _, .int _, .int _] (tX6_add _ _ _ hF _ _ _ _ _ _ _ q64 h1) ⟨rfl, rfl⟩ cd_X6_add wX6_71 nm_X6_add rfl (by rw [hRm]; decide) rfl (Nat.le_of_ble_eq_true rfl) dX6_giveDue_138 ?_
              refine r_aload_n (pc := 141) dX6_giveDue_141 rfl rfl ?_
              refine r_iload_n (pc := 142) dX6_giveDue_142 rfl rfl ?_
              refine r_bipush (pc := 143) (v := 13) dX6_giveDue_143 (by decide) ?_
              refine r_iload (pc := 145) dX6_giveDue_145 rfl ?_
              obtain ⟨m65, q67, h⟩ := gCv_some h
              refine r_callS (pc := 147) [.ref _, .int _, .int _, .int _] (tX6_add _ _ _ hF _ _ _ _ _ _ _ q67 h1) ⟨rfl, rfl⟩ cd_X6_add wX6_71 nm_X6_add rfl (by rw [hRm]; decide) rfl (Nat.le_of_ble_eq_true rfl) dX6_giveDue_147 ?_
              refine r_iload_n (pc := 150) dX6_giveDue_150 rfl rfl ?_
              refine r_iload (pc := 151) dX6_giveDue_151 rfl ?_
              refine r_isub (pc := 153) dX6_giveDue_153 ?_
              exact r_iretH dX6_giveDue_154 h he
            · refine r_iconst (pc := 107) (v := 1) dX6_giveDue_107 (by decide) ?_
              refine r_goto (pc := 108) (tgt := 112) dX6_giveDue_108 (by decide) ?_
              refine r_istore (pc := 112) dX6_giveDue_112 (by rw [hnL]; decide) rfl ?_
              refine r_aload_n (pc := 114) dX6_giveDue_114 rfl rfl ?_
              refine r_bipush (pc := 115) (v := 9) dX6_giveDue_115 (by decide) ?_
              refine r_dup2 (pc := 117) dX6_giveDue_117 rfl rfl ?_
              refine r_iald (pc := 118) dX6_giveDue_118 h1 h (fun x68 h => ?_)
              refine r_iload (pc := 119) dX6_giveDue_119 rfl ?_
              refine r_iadd (pc := 121) dX6_giveDue_121 ?_
              refine r_iast (pc := 122) dX6_giveDue_122 h1 h (fun m69 h => ?_)
              refine r_aload_n (pc := 123) dX6_giveDue_123 rfl rfl ?_
              refine r_bipush (pc := 124) (v := 10) dX6_giveDue_124 (by decide) ?_
              refine r_dup2 (pc := 126) dX6_giveDue_126 rfl rfl ?_
              refine r_iald (pc := 127) dX6_giveDue_127 h1 h (fun x70 h => ?_)
              refine r_iload (pc := 128) dX6_giveDue_128 rfl ?_
              refine r_iadd (pc := 130) dX6_giveDue_130 ?_
              refine r_iast (pc := 131) dX6_giveDue_131 h1 h (fun m71 h => ?_)
              refine r_aload_n (pc := 132) dX6_giveDue_132 rfl rfl ?_
              refine r_iload_n (pc := 133) dX6_giveDue_133 rfl rfl ?_
              refine r_bipush (pc := 134) (v := 12) dX6_giveDue_134 (by decide) ?_
              refine r_iload (pc := 136) dX6_giveDue_136 rfl ?_
              obtain ⟨m72, q74, h⟩ := gCv_some h
              refine r_callS (pc := 138) [.ref _, .int _, .int _, .int _] (tX6_add _ _ _ hF _ _ _ _ _ _ _ q74 h1) ⟨rfl, rfl⟩ cd_X6_add wX6_71 nm_X6_add rfl (by rw [hRm]; decide) rfl (Nat.le_of_ble_eq_true rfl) dX6_giveDue_138 ?_
              refine r_aload_n (pc := 141) dX6_giveDue_141 rfl rfl ?_
              refine r_iload_n (pc := 142) dX6_giveDue_142 rfl rfl ?_
              refine r_bipush (pc := 143) (v := 13) dX6_giveDue_143 (by decide) ?_
              refine r_iload (pc := 145) dX6_giveDue_145 rfl ?_
              obtain ⟨m75, q77, h⟩ := gCv_some h
              refine r_callS (pc := 147) [.ref _, .int _, .int _, .int _] (tX6_add _ _ _ hF _ _ _ _ _ _ _ q77 h1) ⟨rfl, rfl⟩ cd_X6_add wX6_71 nm_X6_add rfl (by rw [hRm]; decide) rfl (Nat.le_of_ble_eq_true rfl) dX6_giveDue_147 ?_
              refine r_iload_n (pc := 150) dX6_giveDue_150 rfl rfl ?_
              refine r_iload (pc := 151) dX6_giveDue_151 rfl ?_
              refine r_isub (pc := 153) dX6_giveDue_153 ?_
              exact r_iretH dX6_giveDue_154 h he
        · refine r_iconst (pc := 88) (v := 1) dX6_giveDue_88 (by decide) ?_
          refine r_goto (pc := 89) (tgt := 93) dX6_giveDue_89 (by decide) ?_
          refine r_istore (pc := 93) dX6_giveDue_93 (by rw [hnL]; decide) rfl ?_
          refine r_iload (pc := 95) dX6_giveDue_95 rfl ?_
          refine r_if_le (pc := 97) (tgt := 111) dX6_giveDue_97 (by decide) h (fun h => ?_) (fun h => ?_)
          · refine r_iconst (pc := 111) (v := 0) dX6_giveDue_111 (by decide) ?_
            refine r_istore (pc := 112) dX6_giveDue_112 (by rw [hnL]; decide) rfl ?_
            refine r_aload_n (pc := 114) dX6_giveDue_114 rfl rfl ?_
            refine r_bipush (pc := 115) (v := 9) dX6_giveDue_115 (by decide) ?_
            refine r_dup2 (pc := 117) dX6_giveDue_117 rfl rfl ?_
            refine r_iald (pc := 118) dX6_giveDue_118 h1 h (fun x78 h => ?_)
            refine r_iload (pc := 119) dX6_giveDue_119 rfl ?_
            refine r_iadd (pc := 121) dX6_giveDue_121 ?_
            refine r_iast (pc := 122) dX6_giveDue_122 h1 h (fun m79 h => ?_)
            refine r_aload_n (pc := 123) dX6_giveDue_123 rfl rfl ?_
            refine r_bipush (pc := 124) (v := 10) dX6_giveDue_124 (by decide) ?_
            refine r_dup2 (pc := 126) dX6_giveDue_126 rfl rfl ?_
            refine r_iald (pc := 127) dX6_giveDue_127 h1 h (fun x80 h => ?_)
            refine r_iload (pc := 128) dX6_giveDue_128 rfl ?_
            refine r_iadd (pc := 130) dX6_giveDue_130 ?_
            refine r_iast (pc := 131) dX6_giveDue_131 h1 h (fun m81 h => ?_)
            refine r_aload_n (pc := 132) dX6_giveDue_132 rfl rfl ?_
            refine r_iload_n (pc := 133) dX6_giveDue_133 rfl rfl ?_
            refine r_bipush (pc := 134) (v := 12) dX6_giveDue_134 (by decide) ?_
            refine r_iload (pc := 136) dX6_giveDue_136 rfl ?_
            obtain ⟨m82, q84, h⟩ := gCv_some h
            refine r_callS (pc := 138) [.ref _, .int _, .int _, .int _] (tX6_add _ _ _ hF _ _ _ _ _ _ _ q84 h1) ⟨rfl, rfl⟩ cd_X6_add wX6_71 nm_X6_add rfl (by rw [hRm]; decide) rfl (Nat.le_of_ble_eq_true rfl) dX6_giveDue_138 ?_
            refine r_aload_n (pc := 141) dX6_giveDue_141 rfl rfl ?_
            refine r_iload_n (pc := 142) dX6_giveDue_142 rfl rfl ?_
            refine r_bipush (pc := 143) (v := 13) dX6_giveDue_143 (by decide) ?_
            refine r_iload (pc := 145) dX6_giveDue_145 rfl ?_
            obtain ⟨m85, q87, h⟩ := gCv_some h
            refine r_callS (pc := 147) [.ref _, .int _, .int _, .int _] (tX6_add _ _ _ hF _ _ _ _ _ _ _ q87 h1) ⟨rfl, rfl⟩ cd_X6_add wX6_71 nm_X6_add rfl (by rw [hRm]; decide) rfl (Nat.le_of_ble_eq_true rfl) dX6_giveDue_147 ?_
            refine r_iload_n (pc := 150) dX6_giveDue_150 rfl rfl ?_
            refine r_iload (pc := 151) dX6_giveDue_151 rfl ?_
            refine r_isub (pc := 153) dX6_giveDue_153 ?_
            exact r_iretH dX6_giveDue_154 h he
          · refine r_iload (pc := 100) dX6_giveDue_100 rfl ?_
            refine r_iload (pc := 102) dX6_giveDue_102 rfl ?_
            refine r_icmp_ge (pc := 104) (tgt := 111) dX6_giveDue_104 (by decide) h (fun h => ?_) (fun h => ?_)
            · refine r_iconst (pc := 111) (v := 0) dX6_giveDue_111 (by decide) ?_
              refine r_istore (pc := 112) dX6_giveDue_112 (by rw [hnL]; decide) rfl ?_
              refine r_aload_n (pc := 114) dX6_giveDue_114 rfl rfl ?_
              refine r_bipush (pc := 115) (v := 9) dX6_giveDue_115 (by decide) ?_
              refine r_dup2 (pc := 117) dX6_giveDue_117 rfl rfl ?_
              refine r_iald (pc := 118) dX6_giveDue_118 h1 h (fun x88 h => ?_)
              refine r_iload (pc := 119) dX6_giveDue_119 rfl ?_
              refine r_iadd (pc := 121) dX6_giveDue_121 ?_
              refine r_iast (pc := 122) dX6_giveDue_122 h1 h (fun m89 h => ?_)
              refine r_aload_n (pc := 123) dX6_giveDue_123 rfl rfl ?_
              refine r_bipush (pc := 124) (v := 10) dX6_giveDue_124 (by decide) ?_
              refine r_dup2 (pc := 126) dX6_giveDue_126 rfl rfl ?_
              refine r_iald (pc := 127) dX6_giveDue_127 h1 h (fun x90 h => ?_)
              refine r_iload (pc := 128) dX6_giveDue_128 rfl ?_
              refine r_iadd (pc := 130) dX6_giveDue_130 ?_
              refine r_iast (pc := 131) dX6_giveDue_131 h1 h (fun m91 h => ?_)
              refine r_aload_n (pc := 132) dX6_giveDue_132 rfl rfl ?_
              refine r_iload_n (pc := 133) dX6_giveDue_133 rfl rfl ?_
              refine r_bipush (pc := 134) (v := 12) dX6_giveDue_134 (by decide) ?_
              refine r_iload (pc := 136) dX6_giveDue_136 rfl ?_
              obtain ⟨m92, q94, h⟩ := gCv_some h
              refine r_callS (pc := 138) [.ref _, .int _, .int _, .int _] (tX6_add _ _ _ hF _ _ _ _ _ _ _ q94 h1) ⟨rfl, rfl⟩ cd_X6_add wX6_71 nm_X6_add rfl (by rw [hRm]; decide) rfl (Nat.le_of_ble_eq_true rfl) dX6_giveDue_138 ?_
              refine r_aload_n (pc := 141) dX6_giveDue_141 rfl rfl ?_
              refine r_iload_n (pc := 142) dX6_giveDue_142 rfl rfl ?_
              refine r_bipush (pc := 143) (v := 13) dX6_giveDue_143 (by decide) ?_
              refine r_iload (pc := 145) dX6_giveDue_145 rfl ?_
              obtain ⟨m95, q97, h⟩ := gCv_some h
              refine r_callS (pc := 147) [.ref _, .int _, .int _, .int _] (tX6_add _ _ _ hF _ _ _ _ _ _ _ q97 h1) ⟨rfl, rfl⟩ cd_X6_add wX6_71 nm_X6_add rfl (by rw [hRm]; decide) rfl (Nat.le_of_ble_eq_true rfl) dX6_giveDue_147 ?_
              refine r_iload_n (pc := 150) dX6_giveDue_150 rfl rfl ?_
              refine r_iload (pc := 151) dX6_giveDue_151 rfl ?_
              refine r_isub (pc := 153) dX6_giveDue_153 ?_
              exact r_iretH dX6_giveDue_154 h he
            · refine r_iconst (pc := 107) (v := 1) dX6_giveDue_107 (by decide) ?_
              refine r_goto (pc := 108) (tgt := 112) dX6_giveDue_108 (by decide) ?_
              refine r_istore (pc := 112) dX6_giveDue_112 (by rw [hnL]; decide) rfl ?_
              refine r_aload_n (pc := 114) dX6_giveDue_114 rfl rfl ?_
              refine r_bipush (pc := 115) (v := 9) dX6_giveDue_115 (by decide) ?_
              refine r_dup2 (pc := 117) dX6_giveDue_117 rfl rfl ?_
              refine r_iald (pc := 118) dX6_giveDue_118 h1 h (fun x98 h => ?_)
              refine r_iload (pc := 119) dX6_giveDue_119 rfl ?_
              refine r_iadd (pc := 121) dX6_giveDue_121 ?_
              refine r_iast (pc := 122) dX6_giveDue_122 h1 h (fun m99 h => ?_)
              refine r_aload_n (pc := 123) dX6_giveDue_123 rfl rfl ?_
              refine r_bipush (pc := 124) (v := 10) dX6_giveDue_124 (by decide) ?_
              refine r_dup2 (pc := 126) dX6_giveDue_126 rfl rfl ?_
              refine r_iald (pc := 127) dX6_giveDue_127 h1 h (fun x100 h => ?_)
              refine r_iload (pc := 128) dX6_giveDue_128 rfl ?_
              refine r_iadd (pc := 130) dX6_giveDue_130 ?_
              refine r_iast (pc := 131) dX6_giveDue_131 h1 h (fun m101 h => ?_)
              refine r_aload_n (pc := 132) dX6_giveDue_132 rfl rfl ?_
              refine r_iload_n (pc := 133) dX6_giveDue_133 rfl rfl ?_
              refine r_bipush (pc := 134) (v := 12) dX6_giveDue_134 (by decide) ?_
              refine r_iload (pc := 136) dX6_giveDue_136 rfl ?_
              obtain ⟨m102, q104, h⟩ := gCv_some h
              refine r_callS (pc := 138) [.ref _, .int _, .int _, .int _] (tX6_add _ _ _ hF _ _ _ _ _ _ _ q104 h1) ⟨rfl, rfl⟩ cd_X6_add wX6_71 nm_X6_add rfl (by rw [hRm]; decide) rfl (Nat.le_of_ble_eq_true rfl) dX6_giveDue_138 ?_
              refine r_aload_n (pc := 141) dX6_giveDue_141 rfl rfl ?_
              refine r_iload_n (pc := 142) dX6_giveDue_142 rfl rfl ?_
              refine r_bipush (pc := 143) (v := 13) dX6_giveDue_143 (by decide) ?_
              refine r_iload (pc := 145) dX6_giveDue_145 rfl ?_
              obtain ⟨m105, q107, h⟩ := gCv_some h
              refine r_callS (pc := 147) [.ref _, .int _, .int _, .int _] (tX6_add _ _ _ hF _ _ _ _ _ _ _ q107 h1) ⟨rfl, rfl⟩ cd_X6_add wX6_71 nm_X6_add rfl (by rw [hRm]; decide) rfl (Nat.le_of_ble_eq_true rfl) dX6_giveDue_147 ?_
              refine r_iload_n (pc := 150) dX6_giveDue_150 rfl rfl ?_
              refine r_iload (pc := 151) dX6_giveDue_151 rfl ?_
              refine r_isub (pc := 153) dX6_giveDue_153 ?_
              exact r_iretH dX6_giveDue_154 h he
    · refine r_iload (pc := 27) dX6_giveDue_27 rfl ?_
      refine r_goto (pc := 29) (tgt := 33) dX6_giveDue_29 (by decide) ?_
      refine r_istore (pc := 33) dX6_giveDue_33 (by rw [hnL]; decide) rfl ?_
      refine r_aload_n (pc := 35) dX6_giveDue_35 rfl rfl ?_
      refine r_bipush (pc := 36) (v := 7) dX6_giveDue_36 (by decide) ?_
      refine r_dup2 (pc := 38) dX6_giveDue_38 rfl rfl ?_
      refine r_iald (pc := 39) dX6_giveDue_39 h1 h (fun x108 h => ?_)
      refine r_iload (pc := 40) dX6_giveDue_40 rfl ?_
      refine r_aload_n (pc := 42) dX6_giveDue_42 rfl rfl ?_
      refine r_bipush (pc := 43) (v := 15) dX6_giveDue_43 (by decide) ?_
      refine r_iald (pc := 45) dX6_giveDue_45 h1 h (fun x109 h => ?_)
      refine r_imul (pc := 46) dX6_giveDue_46 ?_
      refine r_iadd (pc := 47) dX6_giveDue_47 ?_
      refine r_iast (pc := 48) dX6_giveDue_48 h1 h (fun m110 h => ?_)
      refine r_aload_n (pc := 49) dX6_giveDue_49 rfl rfl ?_
      refine r_iconst (pc := 50) (v := 3) dX6_giveDue_50 (by decide) ?_
      refine r_dup2 (pc := 51) dX6_giveDue_51 rfl rfl ?_
      refine r_iald (pc := 52) dX6_giveDue_52 h1 h (fun x111 h => ?_)
      refine r_iload (pc := 53) dX6_giveDue_53 rfl ?_
      refine r_iadd (pc := 55) dX6_giveDue_55 ?_
      refine r_iast (pc := 56) dX6_giveDue_56 h1 h (fun m112 h => ?_)
      refine r_aload_n (pc := 57) dX6_giveDue_57 rfl rfl ?_
      refine r_iload_n (pc := 58) dX6_giveDue_58 rfl rfl ?_
      refine r_bipush (pc := 59) (v := 9) dX6_giveDue_59 (by decide) ?_
      refine r_iload (pc := 61) dX6_giveDue_61 rfl ?_
      obtain ⟨m113, q115, h⟩ := gCv_some h
      refine r_callS (pc := 63) [.ref _, .int _, .int _, .int _] (tX6_add _ _ _ hF _ _ _ _ _ _ _ q115 h1) ⟨rfl, rfl⟩ cd_X6_add wX6_71 nm_X6_add rfl (by rw [hRm]; decide) rfl (Nat.le_of_ble_eq_true rfl) dX6_giveDue_63 ?_
      refine r_aload_n (pc := 66) dX6_giveDue_66 rfl rfl ?_
      refine r_iload_n (pc := 67) dX6_giveDue_67 rfl rfl ?_
      refine r_bipush (pc := 68) (v := 8) dX6_giveDue_68 (by decide) ?_
      refine r_iload (pc := 70) dX6_giveDue_70 rfl ?_
      refine r_iload (pc := 72) dX6_giveDue_72 rfl ?_
      refine r_isub (pc := 74) dX6_giveDue_74 ?_
      obtain ⟨m116, q118, h⟩ := gCv_some h
      refine r_callS (pc := 75) [.ref _, .int _, .int _, .int _] (tX6_add _ _ _ hF _ _ _ _ _ _ _ q118 h1) ⟨rfl, rfl⟩ cd_X6_add wX6_71 nm_X6_add rfl (by rw [hRm]; decide) rfl (Nat.le_of_ble_eq_true rfl) dX6_giveDue_75 ?_
      refine r_iload (pc := 78) dX6_giveDue_78 rfl ?_
      refine r_if_le (pc := 80) (tgt := 92) dX6_giveDue_80 (by decide) h (fun h => ?_) (fun h => ?_)
      · refine r_iconst (pc := 92) (v := 0) dX6_giveDue_92 (by decide) ?_
        refine r_istore (pc := 93) dX6_giveDue_93 (by rw [hnL]; decide) rfl ?_
        refine r_iload (pc := 95) dX6_giveDue_95 rfl ?_
        refine r_if_le (pc := 97) (tgt := 111) dX6_giveDue_97 (by decide) h (fun h => ?_) (fun h => ?_)
        · refine r_iconst (pc := 111) (v := 0) dX6_giveDue_111 (by decide) ?_
          refine r_istore (pc := 112) dX6_giveDue_112 (by rw [hnL]; decide) rfl ?_
          refine r_aload_n (pc := 114) dX6_giveDue_114 rfl rfl ?_
          refine r_bipush (pc := 115) (v := 9) dX6_giveDue_115 (by decide) ?_
          refine r_dup2 (pc := 117) dX6_giveDue_117 rfl rfl ?_
          refine r_iald (pc := 118) dX6_giveDue_118 h1 h (fun x119 h => ?_)
          refine r_iload (pc := 119) dX6_giveDue_119 rfl ?_
          refine r_iadd (pc := 121) dX6_giveDue_121 ?_
          refine r_iast (pc := 122) dX6_giveDue_122 h1 h (fun m120 h => ?_)
          refine r_aload_n (pc := 123) dX6_giveDue_123 rfl rfl ?_
          refine r_bipush (pc := 124) (v := 10) dX6_giveDue_124 (by decide) ?_
          refine r_dup2 (pc := 126) dX6_giveDue_126 rfl rfl ?_
          refine r_iald (pc := 127) dX6_giveDue_127 h1 h (fun x121 h => ?_)
          refine r_iload (pc := 128) dX6_giveDue_128 rfl ?_
          refine r_iadd (pc := 130) dX6_giveDue_130 ?_
          refine r_iast (pc := 131) dX6_giveDue_131 h1 h (fun m122 h => ?_)
          refine r_aload_n (pc := 132) dX6_giveDue_132 rfl rfl ?_
          refine r_iload_n (pc := 133) dX6_giveDue_133 rfl rfl ?_
          refine r_bipush (pc := 134) (v := 12) dX6_giveDue_134 (by decide) ?_
          refine r_iload (pc := 136) dX6_giveDue_136 rfl ?_
          obtain ⟨m123, q125, h⟩ := gCv_some h
          refine r_callS (pc := 138) [.ref _, .int _, .int _, .int _] (tX6_add _ _ _ hF _ _ _ _ _ _ _ q125 h1) ⟨rfl, rfl⟩ cd_X6_add wX6_71 nm_X6_add rfl (by rw [hRm]; decide) rfl (Nat.le_of_ble_eq_true rfl) dX6_giveDue_138 ?_
          refine r_aload_n (pc := 141) dX6_giveDue_141 rfl rfl ?_
          refine r_iload_n (pc := 142) dX6_giveDue_142 rfl rfl ?_
          refine r_bipush (pc := 143) (v := 13) dX6_giveDue_143 (by decide) ?_
          refine r_iload (pc := 145) dX6_giveDue_145 rfl ?_
          obtain ⟨m126, q128, h⟩ := gCv_some h
          refine r_callS (pc := 147) [.ref _, .int _, .int _, .int _] (tX6_add _ _ _ hF _ _ _ _ _ _ _ q128 h1) ⟨rfl, rfl⟩ cd_X6_add wX6_71 nm_X6_add rfl (by rw [hRm]; decide) rfl (Nat.le_of_ble_eq_true rfl) dX6_giveDue_147 ?_
          refine r_iload_n (pc := 150) dX6_giveDue_150 rfl rfl ?_
          refine r_iload (pc := 151) dX6_giveDue_151 rfl ?_
          refine r_isub (pc := 153) dX6_giveDue_153 ?_
          exact r_iretH dX6_giveDue_154 h he
        · refine r_iload (pc := 100) dX6_giveDue_100 rfl ?_
          refine r_iload (pc := 102) dX6_giveDue_102 rfl ?_
          refine r_icmp_ge (pc := 104) (tgt := 111) dX6_giveDue_104 (by decide) h (fun h => ?_) (fun h => ?_)
          · refine r_iconst (pc := 111) (v := 0) dX6_giveDue_111 (by decide) ?_
            refine r_istore (pc := 112) dX6_giveDue_112 (by rw [hnL]; decide) rfl ?_
            refine r_aload_n (pc := 114) dX6_giveDue_114 rfl rfl ?_
            refine r_bipush (pc := 115) (v := 9) dX6_giveDue_115 (by decide) ?_
            refine r_dup2 (pc := 117) dX6_giveDue_117 rfl rfl ?_
            refine r_iald (pc := 118) dX6_giveDue_118 h1 h (fun x129 h => ?_)
            refine r_iload (pc := 119) dX6_giveDue_119 rfl ?_
            refine r_iadd (pc := 121) dX6_giveDue_121 ?_
            refine r_iast (pc := 122) dX6_giveDue_122 h1 h (fun m130 h => ?_)
            refine r_aload_n (pc := 123) dX6_giveDue_123 rfl rfl ?_
            refine r_bipush (pc := 124) (v := 10) dX6_giveDue_124 (by decide) ?_
            refine r_dup2 (pc := 126) dX6_giveDue_126 rfl rfl ?_
            refine r_iald (pc := 127) dX6_giveDue_127 h1 h (fun x131 h => ?_)
            refine r_iload (pc := 128) dX6_giveDue_128 rfl ?_
            refine r_iadd (pc := 130) dX6_giveDue_130 ?_
            refine r_iast (pc := 131) dX6_giveDue_131 h1 h (fun m132 h => ?_)
            refine r_aload_n (pc := 132) dX6_giveDue_132 rfl rfl ?_
            refine r_iload_n (pc := 133) dX6_giveDue_133 rfl rfl ?_
            refine r_bipush (pc := 134) (v := 12) dX6_giveDue_134 (by decide) ?_
            refine r_iload (pc := 136) dX6_giveDue_136 rfl ?_
            obtain ⟨m133, q135, h⟩ := gCv_some h
            refine r_callS (pc := 138) [.ref _, .int _, .int _, .int _] (tX6_add _ _ _ hF _ _ _ _ _ _ _ q135 h1) ⟨rfl, rfl⟩ cd_X6_add wX6_71 nm_X6_add rfl (by rw [hRm]; decide) rfl (Nat.le_of_ble_eq_true rfl) dX6_giveDue_138 ?_
            refine r_aload_n (pc := 141) dX6_giveDue_141 rfl rfl ?_
            refine r_iload_n (pc := 142) dX6_giveDue_142 rfl rfl ?_
            refine r_bipush (pc := 143) (v := 13) dX6_giveDue_143 (by decide) ?_
            refine r_iload (pc := 145) dX6_giveDue_145 rfl ?_
            obtain ⟨m136, q138, h⟩ := gCv_some h
            refine r_callS (pc := 147) [.ref _, .int _, .int _, .int _] (tX6_add _ _ _ hF _ _ _ _ _ _ _ q138 h1) ⟨rfl, rfl⟩ cd_X6_add wX6_71 nm_X6_add rfl (by rw [hRm]; decide) rfl (Nat.le_of_ble_eq_true rfl) dX6_giveDue_147 ?_
            refine r_iload_n (pc := 150) dX6_giveDue_150 rfl rfl ?_
            refine r_iload (pc := 151) dX6_giveDue_151 rfl ?_
            refine r_isub (pc := 153) dX6_giveDue_153 ?_
            exact r_iretH dX6_giveDue_154 h he
          · refine r_iconst (pc := 107) (v := 1) dX6_giveDue_107 (by decide) ?_
            refine r_goto (pc := 108) (tgt := 112) dX6_giveDue_108 (by decide) ?_
            refine r_istore (pc := 112) dX6_giveDue_112 (by rw [hnL]; decide) rfl ?_
            refine r_aload_n (pc := 114) dX6_giveDue_114 rfl rfl ?_
            refine r_bipush (pc := 115) (v := 9) dX6_giveDue_115 (by decide) ?_
            refine r_dup2 (pc := 117) dX6_giveDue_117 rfl rfl ?_
            refine r_iald (pc := 118) dX6_giveDue_118 h1 h (fun x139 h => ?_)
            refine r_iload (pc := 119) dX6_giveDue_119 rfl ?_
            refine r_iadd (pc := 121) dX6_giveDue_121 ?_
            refine r_iast (pc := 122) dX6_giveDue_122 h1 h (fun m140 h => ?_)
            refine r_aload_n (pc := 123) dX6_giveDue_123 rfl rfl ?_
            refine r_bipush (pc := 124) (v := 10) dX6_giveDue_124 (by decide) ?_
            refine r_dup2 (pc := 126) dX6_giveDue_126 rfl rfl ?_
            refine r_iald (pc := 127) dX6_giveDue_127 h1 h (fun x141 h => ?_)
            refine r_iload (pc := 128) dX6_giveDue_128 rfl ?_
            refine r_iadd (pc := 130) dX6_giveDue_130 ?_
            refine r_iast (pc := 131) dX6_giveDue_131 h1 h (fun m142 h => ?_)
            refine r_aload_n (pc := 132) dX6_giveDue_132 rfl rfl ?_
            refine r_iload_n (pc := 133) dX6_giveDue_133 rfl rfl ?_
            refine r_bipush (pc := 134) (v := 12) dX6_giveDue_134 (by decide) ?_
            refine r_iload (pc := 136) dX6_giveDue_136 rfl ?_
            obtain ⟨m143, q145, h⟩ := gCv_some h
            refine r_callS (pc := 138) [.ref _, .int _, .int _, .int _] (tX6_add _ _ _ hF _ _ _ _ _ _ _ q145 h1) ⟨rfl, rfl⟩ cd_X6_add wX6_71 nm_X6_add rfl (by rw [hRm]; decide) rfl (Nat.le_of_ble_eq_true rfl) dX6_giveDue_138 ?_
            refine r_aload_n (pc := 141) dX6_giveDue_141 rfl rfl ?_
            refine r_iload_n (pc := 142) dX6_giveDue_142 rfl rfl ?_
            refine r_bipush (pc := 143) (v := 13) dX6_giveDue_143 (by decide) ?_
            refine r_iload (pc := 145) dX6_giveDue_145 rfl ?_
            obtain ⟨m146, q148, h⟩ := gCv_some h
            refine r_callS (pc := 147) [.ref _, .int _, .int _, .int _] (tX6_add _ _ _ hF _ _ _ _ _ _ _ q148 h1) ⟨rfl, rfl⟩ cd_X6_add wX6_71 nm_X6_add rfl (by rw [hRm]; decide) rfl (Nat.le_of_ble_eq_true rfl) dX6_giveDue_147 ?_
            refine r_iload_n (pc := 150) dX6_giveDue_150 rfl rfl ?_
            refine r_iload (pc := 151) dX6_giveDue_151 rfl ?_
            refine r_isub (pc := 153) dX6_giveDue_153 ?_
            exact r_iretH dX6_giveDue_154 h he
      · refine r_iload (pc := 83) dX6_giveDue_83 rfl ?_
        refine r_if_ne (pc := 85) (tgt := 92) dX6_giveDue_85 (by decide) h (fun h => ?_) (fun h => ?_)
        · refine r_iconst (pc := 92) (v := 0) dX6_giveDue_92 (by decide) ?_
          refine r_istore (pc := 93) dX6_giveDue_93 (by rw [hnL]; decide) rfl ?_
          refine r_iload (pc := 95) dX6_giveDue_95 rfl ?_
          refine r_if_le (pc := 97) (tgt := 111) dX6_giveDue_97 (by decide) h (fun h => ?_) (fun h => ?_)
          · refine r_iconst (pc := 111) (v := 0) dX6_giveDue_111 (by decide) ?_
            refine r_istore (pc := 112) dX6_giveDue_112 (by rw [hnL]; decide) rfl ?_
            refine r_aload_n (pc := 114) dX6_giveDue_114 rfl rfl ?_
            refine r_bipush (pc := 115) (v := 9) dX6_giveDue_115 (by decide) ?_
            refine r_dup2 (pc := 117) dX6_giveDue_117 rfl rfl ?_
            refine r_iald (pc := 118) dX6_giveDue_118 h1 h (fun x149 h => ?_)
            refine r_iload (pc := 119) dX6_giveDue_119 rfl ?_
            refine r_iadd (pc := 121) dX6_giveDue_121 ?_
            refine r_iast (pc := 122) dX6_giveDue_122 h1 h (fun m150 h => ?_)
            refine r_aload_n (pc := 123) dX6_giveDue_123 rfl rfl ?_
            refine r_bipush (pc := 124) (v := 10) dX6_giveDue_124 (by decide) ?_
            refine r_dup2 (pc := 126) dX6_giveDue_126 rfl rfl ?_
            refine r_iald (pc := 127) dX6_giveDue_127 h1 h (fun x151 h => ?_)
            refine r_iload (pc := 128) dX6_giveDue_128 rfl ?_
            refine r_iadd (pc := 130) dX6_giveDue_130 ?_
            refine r_iast (pc := 131) dX6_giveDue_131 h1 h (fun m152 h => ?_)
            refine r_aload_n (pc := 132) dX6_giveDue_132 rfl rfl ?_
            refine r_iload_n (pc := 133) dX6_giveDue_133 rfl rfl ?_
            refine r_bipush (pc := 134) (v := 12) dX6_giveDue_134 (by decide) ?_
            refine r_iload (pc := 136) dX6_giveDue_136 rfl ?_
            obtain ⟨m153, q155, h⟩ := gCv_some h
            refine r_callS (pc := 138) [.ref _, .int _, .int _, .int _] (tX6_add _ _ _ hF _ _ _ _ _ _ _ q155 h1) ⟨rfl, rfl⟩ cd_X6_add wX6_71 nm_X6_add rfl (by rw [hRm]; decide) rfl (Nat.le_of_ble_eq_true rfl) dX6_giveDue_138 ?_
            refine r_aload_n (pc := 141) dX6_giveDue_141 rfl rfl ?_
            refine r_iload_n (pc := 142) dX6_giveDue_142 rfl rfl ?_
            refine r_bipush (pc := 143) (v := 13) dX6_giveDue_143 (by decide) ?_
            refine r_iload (pc := 145) dX6_giveDue_145 rfl ?_
            obtain ⟨m156, q158, h⟩ := gCv_some h
            refine r_callS (pc := 147) [.ref _, .int _, .int _, .int _] (tX6_add _ _ _ hF _ _ _ _ _ _ _ q158 h1) ⟨rfl, rfl⟩ cd_X6_add wX6_71 nm_X6_add rfl (by rw [hRm]; decide) rfl (Nat.le_of_ble_eq_true rfl) dX6_giveDue_147 ?_
            refine r_iload_n (pc := 150) dX6_giveDue_150 rfl rfl ?_
            refine r_iload (pc := 151) dX6_giveDue_151 rfl ?_
            refine r_isub (pc := 153) dX6_giveDue_153 ?_
            exact r_iretH dX6_giveDue_154 h he
          · refine r_iload (pc := 100) dX6_giveDue_100 rfl ?_
            refine r_iload (pc := 102) dX6_giveDue_102 rfl ?_
            refine r_icmp_ge (pc := 104) (tgt := 111) dX6_giveDue_104 (by decide) h (fun h => ?_) (fun h => ?_)
            · refine r_iconst (pc := 111) (v := 0) dX6_giveDue_111 (by decide) ?_
              refine r_istore (pc := 112) dX6_giveDue_112 (by rw [hnL]; decide) rfl ?_
              refine r_aload_n (pc := 114) dX6_giveDue_114 rfl rfl ?_
              refine r_bipush (pc := 115) (v := 9) dX6_giveDue_115 (by decide) ?_
              refine r_dup2 (pc := 117) dX6_giveDue_117 rfl rfl ?_
              refine r_iald (pc := 118) dX6_giveDue_118 h1 h (fun x159 h => ?_)
              refine r_iload (pc := 119) dX6_giveDue_119 rfl ?_
              refine r_iadd (pc := 121) dX6_giveDue_121 ?_
              refine r_iast (pc := 122) dX6_giveDue_122 h1 h (fun m160 h => ?_)
              refine r_aload_n (pc := 123) dX6_giveDue_123 rfl rfl ?_
              refine r_bipush (pc := 124) (v := 10) dX6_giveDue_124 (by decide) ?_
              refine r_dup2 (pc := 126) dX6_giveDue_126 rfl rfl ?_
              refine r_iald (pc := 127) dX6_giveDue_127 h1 h (fun x161 h => ?_)
              refine r_iload (pc := 128) dX6_giveDue_128 rfl ?_
              refine r_iadd (pc := 130) dX6_giveDue_130 ?_
              refine r_iast (pc := 131) dX6_giveDue_131 h1 h (fun m162 h => ?_)
              refine r_aload_n (pc := 132) dX6_giveDue_132 rfl rfl ?_
              refine r_iload_n (pc := 133) dX6_giveDue_133 rfl rfl ?_
              refine r_bipush (pc := 134) (v := 12) dX6_giveDue_134 (by decide) ?_
              refine r_iload (pc := 136) dX6_giveDue_136 rfl ?_
              obtain ⟨m163, q165, h⟩ := gCv_some h
              refine r_callS (pc := 138) [.ref _, .int _, .int _, .int _] (tX6_add _ _ _ hF _ _ _ _ _ _ _ q165 h1) ⟨rfl, rfl⟩ cd_X6_add wX6_71 nm_X6_add rfl (by rw [hRm]; decide) rfl (Nat.le_of_ble_eq_true rfl) dX6_giveDue_138 ?_
              refine r_aload_n (pc := 141) dX6_giveDue_141 rfl rfl ?_
              refine r_iload_n (pc := 142) dX6_giveDue_142 rfl rfl ?_
              refine r_bipush (pc := 143) (v := 13) dX6_giveDue_143 (by decide) ?_
              refine r_iload (pc := 145) dX6_giveDue_145 rfl ?_
              obtain ⟨m166, q168, h⟩ := gCv_some h
              refine r_callS (pc := 147) [.ref _, .int _, .int _, .int _] (tX6_add _ _ _ hF _ _ _ _ _ _ _ q168 h1) ⟨rfl, rfl⟩ cd_X6_add wX6_71 nm_X6_add rfl (by rw [hRm]; decide) rfl (Nat.le_of_ble_eq_true rfl) dX6_giveDue_147 ?_
              refine r_iload_n (pc := 150) dX6_giveDue_150 rfl rfl ?_
              refine r_iload (pc := 151) dX6_giveDue_151 rfl ?_
              refine r_isub (pc := 153) dX6_giveDue_153 ?_
              exact r_iretH dX6_giveDue_154 h he
            · refine r_iconst (pc := 107) (v := 1) dX6_giveDue_107 (by decide) ?_
              refine r_goto (pc := 108) (tgt := 112) dX6_giveDue_108 (by decide) ?_
              refine r_istore (pc := 112) dX6_giveDue_112 (by rw [hnL]; decide) rfl ?_
              refine r_aload_n (pc := 114) dX6_giveDue_114 rfl rfl ?_
              refine r_bipush (pc := 115) (v := 9) dX6_giveDue_115 (by decide) ?_
              refine r_dup2 (pc := 117) dX6_giveDue_117 rfl rfl ?_
              refine r_iald (pc := 118) dX6_giveDue_118 h1 h (fun x169 h => ?_)
              refine r_iload (pc := 119) dX6_giveDue_119 rfl ?_
              refine r_iadd (pc := 121) dX6_giveDue_121 ?_
              refine r_iast (pc := 122) dX6_giveDue_122 h1 h (fun m170 h => ?_)
              refine r_aload_n (pc := 123) dX6_giveDue_123 rfl rfl ?_
              refine r_bipush (pc := 124) (v := 10) dX6_giveDue_124 (by decide) ?_
              refine r_dup2 (pc := 126) dX6_giveDue_126 rfl rfl ?_
              refine r_iald (pc := 127) dX6_giveDue_127 h1 h (fun x171 h => ?_)
              refine r_iload (pc := 128) dX6_giveDue_128 rfl ?_
              refine r_iadd (pc := 130) dX6_giveDue_130 ?_
              refine r_iast (pc := 131) dX6_giveDue_131 h1 h (fun m172 h => ?_)
              refine r_aload_n (pc := 132) dX6_giveDue_132 rfl rfl ?_
              refine r_iload_n (pc := 133) dX6_giveDue_133 rfl rfl ?_
              refine r_bipush (pc := 134) (v := 12) dX6_giveDue_134 (by decide) ?_
              refine r_iload (pc := 136) dX6_giveDue_136 rfl ?_
              obtain ⟨m173, q175, h⟩ := gCv_some h
              refine r_callS (pc := 138) [.ref _, .int _, .int _, .int _] (tX6_add _ _ _ hF _ _ _ _ _ _ _ q175 h1) ⟨rfl, rfl⟩ cd_X6_add wX6_71 nm_X6_add rfl (by rw [hRm]; decide) rfl (Nat.le_of_ble_eq_true rfl) dX6_giveDue_138 ?_
              refine r_aload_n (pc := 141) dX6_giveDue_141 rfl rfl ?_
              refine r_iload_n (pc := 142) dX6_giveDue_142 rfl rfl ?_
              refine r_bipush (pc := 143) (v := 13) dX6_giveDue_143 (by decide) ?_
              refine r_iload (pc := 145) dX6_giveDue_145 rfl ?_
              obtain ⟨m176, q178, h⟩ := gCv_some h
              refine r_callS (pc := 147) [.ref _, .int _, .int _, .int _] (tX6_add _ _ _ hF _ _ _ _ _ _ _ q178 h1) ⟨rfl, rfl⟩ cd_X6_add wX6_71 nm_X6_add rfl (by rw [hRm]; decide) rfl (Nat.le_of_ble_eq_true rfl) dX6_giveDue_147 ?_
              refine r_iload_n (pc := 150) dX6_giveDue_150 rfl rfl ?_
              refine r_iload (pc := 151) dX6_giveDue_151 rfl ?_
              refine r_isub (pc := 153) dX6_giveDue_153 ?_
              exact r_iretH dX6_giveDue_154 h he
        · refine r_iconst (pc := 88) (v := 1) dX6_giveDue_88 (by decide) ?_
          refine r_goto (pc := 89) (tgt := 93) dX6_giveDue_89 (by decide) ?_
          refine r_istore (pc := 93) dX6_giveDue_93 (by rw [hnL]; decide) rfl ?_
          refine r_iload (pc := 95) dX6_giveDue_95 rfl ?_
          refine r_if_le (pc := 97) (tgt := 111) dX6_giveDue_97 (by decide) h (fun h => ?_) (fun h => ?_)
          · refine r_iconst (pc := 111) (v := 0) dX6_giveDue_111 (by decide) ?_
            refine r_istore (pc := 112) dX6_giveDue_112 (by rw [hnL]; decide) rfl ?_
            refine r_aload_n (pc := 114) dX6_giveDue_114 rfl rfl ?_
            refine r_bipush (pc := 115) (v := 9) dX6_giveDue_115 (by decide) ?_
            refine r_dup2 (pc := 117) dX6_giveDue_117 rfl rfl ?_
            refine r_iald (pc := 118) dX6_giveDue_118 h1 h (fun x179 h => ?_)
            refine r_iload (pc := 119) dX6_giveDue_119 rfl ?_
            refine r_iadd (pc := 121) dX6_giveDue_121 ?_
            refine r_iast (pc := 122) dX6_giveDue_122 h1 h (fun m180 h => ?_)
            refine r_aload_n (pc := 123) dX6_giveDue_123 rfl rfl ?_
            refine r_bipush (pc := 124) (v := 10) dX6_giveDue_124 (by decide) ?_
            refine r_dup2 (pc := 126) dX6_giveDue_126 rfl rfl ?_
            refine r_iald (pc := 127) dX6_giveDue_127 h1 h (fun x181 h => ?_)
            refine r_iload (pc := 128) dX6_giveDue_128 rfl ?_
            refine r_iadd (pc := 130) dX6_giveDue_130 ?_
            refine r_iast (pc := 131) dX6_giveDue_131 h1 h (fun m182 h => ?_)
            refine r_aload_n (pc := 132) dX6_giveDue_132 rfl rfl ?_
            refine r_iload_n (pc := 133) dX6_giveDue_133 rfl rfl ?_
            refine r_bipush (pc := 134) (v := 12) dX6_giveDue_134 (by decide) ?_
            refine r_iload (pc := 136) dX6_giveDue_136 rfl ?_
            obtain ⟨m183, q185, h⟩ := gCv_some h
            refine r_callS (pc := 138) [.ref _, .int _, .int _, .int _] (tX6_add _ _ _ hF _ _ _ _ _ _ _ q185 h1) ⟨rfl, rfl⟩ cd_X6_add wX6_71 nm_X6_add rfl (by rw [hRm]; decide) rfl (Nat.le_of_ble_eq_true rfl) dX6_giveDue_138 ?_
            refine r_aload_n (pc := 141) dX6_giveDue_141 rfl rfl ?_
            refine r_iload_n (pc := 142) dX6_giveDue_142 rfl rfl ?_
            refine r_bipush (pc := 143) (v := 13) dX6_giveDue_143 (by decide) ?_
            refine r_iload (pc := 145) dX6_giveDue_145 rfl ?_
            obtain ⟨m186, q188, h⟩ := gCv_some h
            refine r_callS (pc := 147) [.ref _, .int _, .int _, .int _] (tX6_add _ _ _ hF _ _ _ _ _ _ _ q188 h1) ⟨rfl, rfl⟩ cd_X6_add wX6_71 nm_X6_add rfl (by rw [hRm]; decide) rfl (Nat.le_of_ble_eq_true rfl) dX6_giveDue_147 ?_
            refine r_iload_n (pc := 150) dX6_giveDue_150 rfl rfl ?_
            refine r_iload (pc := 151) dX6_giveDue_151 rfl ?_
            refine r_isub (pc := 153) dX6_giveDue_153 ?_
            exact r_iretH dX6_giveDue_154 h he
          · refine r_iload (pc := 100) dX6_giveDue_100 rfl ?_
            refine r_iload (pc := 102) dX6_giveDue_102 rfl ?_
            refine r_icmp_ge (pc := 104) (tgt := 111) dX6_giveDue_104 (by decide) h (fun h => ?_) (fun h => ?_)
            · refine r_iconst (pc := 111) (v := 0) dX6_giveDue_111 (by decide) ?_
              refine r_istore (pc := 112) dX6_giveDue_112 (by rw [hnL]; decide) rfl ?_
              refine r_aload_n (pc := 114) dX6_giveDue_114 rfl rfl ?_
              refine r_bipush (pc := 115) (v := 9) dX6_giveDue_115 (by decide) ?_
              refine r_dup2 (pc := 117) dX6_giveDue_117 rfl rfl ?_
              refine r_iald (pc := 118) dX6_giveDue_118 h1 h (fun x189 h => ?_)
              refine r_iload (pc := 119) dX6_giveDue_119 rfl ?_
              refine r_iadd (pc := 121) dX6_giveDue_121 ?_
              refine r_iast (pc := 122) dX6_giveDue_122 h1 h (fun m190 h => ?_)
              refine r_aload_n (pc := 123) dX6_giveDue_123 rfl rfl ?_
              refine r_bipush (pc := 124) (v := 10) dX6_giveDue_124 (by decide) ?_
              refine r_dup2 (pc := 126) dX6_giveDue_126 rfl rfl ?_
              refine r_iald (pc := 127) dX6_giveDue_127 h1 h (fun x191 h => ?_)
              refine r_iload (pc := 128) dX6_giveDue_128 rfl ?_
              refine r_iadd (pc := 130) dX6_giveDue_130 ?_
              refine r_iast (pc := 131) dX6_giveDue_131 h1 h (fun m192 h => ?_)
              refine r_aload_n (pc := 132) dX6_giveDue_132 rfl rfl ?_
              refine r_iload_n (pc := 133) dX6_giveDue_133 rfl rfl ?_
              refine r_bipush (pc := 134) (v := 12) dX6_giveDue_134 (by decide) ?_
              refine r_iload (pc := 136) dX6_giveDue_136 rfl ?_
              obtain ⟨m193, q195, h⟩ := gCv_some h
              refine r_callS (pc := 138) [.ref _, .int _, .int _, .int _] (tX6_add _ _ _ hF _ _ _ _ _ _ _ q195 h1) ⟨rfl, rfl⟩ cd_X6_add wX6_71 nm_X6_add rfl (by rw [hRm]; decide) rfl (Nat.le_of_ble_eq_true rfl) dX6_giveDue_138 ?_
              refine r_aload_n (pc := 141) dX6_giveDue_141 rfl rfl ?_
              refine r_iload_n (pc := 142) dX6_giveDue_142 rfl rfl ?_
              refine r_bipush (pc := 143) (v := 13) dX6_giveDue_143 (by decide) ?_
              refine r_iload (pc := 145) dX6_giveDue_145 rfl ?_
              obtain ⟨m196, q198, h⟩ := gCv_some h
              refine r_callS (pc := 147) [.ref _, .int _, .int _, .int _] (tX6_add _ _ _ hF _ _ _ _ _ _ _ q198 h1) ⟨rfl, rfl⟩ cd_X6_add wX6_71 nm_X6_add rfl (by rw [hRm]; decide) rfl (Nat.le_of_ble_eq_true rfl) dX6_giveDue_147 ?_
              refine r_iload_n (pc := 150) dX6_giveDue_150 rfl rfl ?_
              refine r_iload (pc := 151) dX6_giveDue_151 rfl ?_
              refine r_isub (pc := 153) dX6_giveDue_153 ?_
              exact r_iretH dX6_giveDue_154 h he
            · refine r_iconst (pc := 107) (v := 1) dX6_giveDue_107 (by decide) ?_
              refine r_goto (pc := 108) (tgt := 112) dX6_giveDue_108 (by decide) ?_
              refine r_istore (pc := 112) dX6_giveDue_112 (by rw [hnL]; decide) rfl ?_
              refine r_aload_n (pc := 114) dX6_giveDue_114 rfl rfl ?_
              refine r_bipush (pc := 115) (v := 9) dX6_giveDue_115 (by decide) ?_
              refine r_dup2 (pc := 117) dX6_giveDue_117 rfl rfl ?_
              refine r_iald (pc := 118) dX6_giveDue_118 h1 h (fun x199 h => ?_)
              refine r_iload (pc := 119) dX6_giveDue_119 rfl ?_
              refine r_iadd (pc := 121) dX6_giveDue_121 ?_
              refine r_iast (pc := 122) dX6_giveDue_122 h1 h (fun m200 h => ?_)
              refine r_aload_n (pc := 123) dX6_giveDue_123 rfl rfl ?_
              refine r_bipush (pc := 124) (v := 10) dX6_giveDue_124 (by decide) ?_
              refine r_dup2 (pc := 126) dX6_giveDue_126 rfl rfl ?_
              refine r_iald (pc := 127) dX6_giveDue_127 h1 h (fun x201 h => ?_)
              refine r_iload (pc := 128) dX6_giveDue_128 rfl ?_
              refine r_iadd (pc := 130) dX6_giveDue_130 ?_
              refine r_iast (pc := 131) dX6_giveDue_131 h1 h (fun m202 h => ?_)
              refine r_aload_n (pc := 132) dX6_giveDue_132 rfl rfl ?_
              refine r_iload_n (pc := 133) dX6_giveDue_133 rfl rfl ?_
              refine r_bipush (pc := 134) (v := 12) dX6_giveDue_134 (by decide) ?_
              refine r_iload (pc := 136) dX6_giveDue_136 rfl ?_
              obtain ⟨m203, q205, h⟩ := gCv_some h
              refine r_callS (pc := 138) [.ref _, .int _, .int _, .int _] (tX6_add _ _ _ hF _ _ _ _ _ _ _ q205 h1) ⟨rfl, rfl⟩ cd_X6_add wX6_71 nm_X6_add rfl (by rw [hRm]; decide) rfl (Nat.le_of_ble_eq_true rfl) dX6_giveDue_138 ?_
              refine r_aload_n (pc := 141) dX6_giveDue_141 rfl rfl ?_
              refine r_iload_n (pc := 142) dX6_giveDue_142 rfl rfl ?_
              refine r_bipush (pc := 143) (v := 13) dX6_giveDue_143 (by decide) ?_
              refine r_iload (pc := 145) dX6_giveDue_145 rfl ?_
              obtain ⟨m206, q208, h⟩ := gCv_some h
              refine r_callS (pc := 147) [.ref _, .int _, .int _, .int _] (tX6_add _ _ _ hF _ _ _ _ _ _ _ q208 h1) ⟨rfl, rfl⟩ cd_X6_add wX6_71 nm_X6_add rfl (by rw [hRm]; decide) rfl (Nat.le_of_ble_eq_true rfl) dX6_giveDue_147 ?_
              refine r_iload_n (pc := 150) dX6_giveDue_150 rfl rfl ?_
              refine r_iload (pc := 151) dX6_giveDue_151 rfl ?_
              refine r_isub (pc := 153) dX6_giveDue_153 ?_
              exact r_iretH dX6_giveDue_154 h he
  · refine r_iconst (pc := 17) (v := 0) dX6_giveDue_17 (by decide) ?_
    refine r_goto (pc := 18) (tgt := 33) dX6_giveDue_18 (by decide) ?_
    refine r_istore (pc := 33) dX6_giveDue_33 (by rw [hnL]; decide) rfl ?_
    refine r_aload_n (pc := 35) dX6_giveDue_35 rfl rfl ?_
    refine r_bipush (pc := 36) (v := 7) dX6_giveDue_36 (by decide) ?_
    refine r_dup2 (pc := 38) dX6_giveDue_38 rfl rfl ?_
    refine r_iald (pc := 39) dX6_giveDue_39 h1 h (fun x209 h => ?_)
    refine r_iload (pc := 40) dX6_giveDue_40 rfl ?_
    refine r_aload_n (pc := 42) dX6_giveDue_42 rfl rfl ?_
    refine r_bipush (pc := 43) (v := 15) dX6_giveDue_43 (by decide) ?_
    refine r_iald (pc := 45) dX6_giveDue_45 h1 h (fun x210 h => ?_)
    refine r_imul (pc := 46) dX6_giveDue_46 ?_
    refine r_iadd (pc := 47) dX6_giveDue_47 ?_
    refine r_iast (pc := 48) dX6_giveDue_48 h1 h (fun m211 h => ?_)
    refine r_aload_n (pc := 49) dX6_giveDue_49 rfl rfl ?_
    refine r_iconst (pc := 50) (v := 3) dX6_giveDue_50 (by decide) ?_
    refine r_dup2 (pc := 51) dX6_giveDue_51 rfl rfl ?_
    refine r_iald (pc := 52) dX6_giveDue_52 h1 h (fun x212 h => ?_)
    refine r_iload (pc := 53) dX6_giveDue_53 rfl ?_
    refine r_iadd (pc := 55) dX6_giveDue_55 ?_
    refine r_iast (pc := 56) dX6_giveDue_56 h1 h (fun m213 h => ?_)
    refine r_aload_n (pc := 57) dX6_giveDue_57 rfl rfl ?_
    refine r_iload_n (pc := 58) dX6_giveDue_58 rfl rfl ?_
    refine r_bipush (pc := 59) (v := 9) dX6_giveDue_59 (by decide) ?_
    refine r_iload (pc := 61) dX6_giveDue_61 rfl ?_
    obtain ⟨m214, q216, h⟩ := gCv_some h
    refine r_callS (pc := 63) [.ref _, .int _, .int _, .int _] (tX6_add _ _ _ hF _ _ _ _ _ _ _ q216 h1) ⟨rfl, rfl⟩ cd_X6_add wX6_71 nm_X6_add rfl (by rw [hRm]; decide) rfl (Nat.le_of_ble_eq_true rfl) dX6_giveDue_63 ?_
    refine r_aload_n (pc := 66) dX6_giveDue_66 rfl rfl ?_
    refine r_iload_n (pc := 67) dX6_giveDue_67 rfl rfl ?_
    refine r_bipush (pc := 68) (v := 8) dX6_giveDue_68 (by decide) ?_
    refine r_iload (pc := 70) dX6_giveDue_70 rfl ?_
    refine r_iload (pc := 72) dX6_giveDue_72 rfl ?_
    refine r_isub (pc := 74) dX6_giveDue_74 ?_
    obtain ⟨m217, q219, h⟩ := gCv_some h
    refine r_callS (pc := 75) [.ref _, .int _, .int _, .int _] (tX6_add _ _ _ hF _ _ _ _ _ _ _ q219 h1) ⟨rfl, rfl⟩ cd_X6_add wX6_71 nm_X6_add rfl (by rw [hRm]; decide) rfl (Nat.le_of_ble_eq_true rfl) dX6_giveDue_75 ?_
    refine r_iload (pc := 78) dX6_giveDue_78 rfl ?_
    refine r_if_le (pc := 80) (tgt := 92) dX6_giveDue_80 (by decide) h (fun h => ?_) (fun h => ?_)
    · refine r_iconst (pc := 92) (v := 0) dX6_giveDue_92 (by decide) ?_
      refine r_istore (pc := 93) dX6_giveDue_93 (by rw [hnL]; decide) rfl ?_
      refine r_iload (pc := 95) dX6_giveDue_95 rfl ?_
      refine r_if_le (pc := 97) (tgt := 111) dX6_giveDue_97 (by decide) h (fun h => ?_) (fun h => ?_)
      · refine r_iconst (pc := 111) (v := 0) dX6_giveDue_111 (by decide) ?_
        refine r_istore (pc := 112) dX6_giveDue_112 (by rw [hnL]; decide) rfl ?_
        refine r_aload_n (pc := 114) dX6_giveDue_114 rfl rfl ?_
        refine r_bipush (pc := 115) (v := 9) dX6_giveDue_115 (by decide) ?_
        refine r_dup2 (pc := 117) dX6_giveDue_117 rfl rfl ?_
        refine r_iald (pc := 118) dX6_giveDue_118 h1 h (fun x220 h => ?_)
        refine r_iload (pc := 119) dX6_giveDue_119 rfl ?_
        refine r_iadd (pc := 121) dX6_giveDue_121 ?_
        refine r_iast (pc := 122) dX6_giveDue_122 h1 h (fun m221 h => ?_)
        refine r_aload_n (pc := 123) dX6_giveDue_123 rfl rfl ?_
        refine r_bipush (pc := 124) (v := 10) dX6_giveDue_124 (by decide) ?_
        refine r_dup2 (pc := 126) dX6_giveDue_126 rfl rfl ?_
        refine r_iald (pc := 127) dX6_giveDue_127 h1 h (fun x222 h => ?_)
        refine r_iload (pc := 128) dX6_giveDue_128 rfl ?_
        refine r_iadd (pc := 130) dX6_giveDue_130 ?_
        refine r_iast (pc := 131) dX6_giveDue_131 h1 h (fun m223 h => ?_)
        refine r_aload_n (pc := 132) dX6_giveDue_132 rfl rfl ?_
        refine r_iload_n (pc := 133) dX6_giveDue_133 rfl rfl ?_
        refine r_bipush (pc := 134) (v := 12) dX6_giveDue_134 (by decide) ?_
        refine r_iload (pc := 136) dX6_giveDue_136 rfl ?_
        obtain ⟨m224, q226, h⟩ := gCv_some h
        refine r_callS (pc := 138) [.ref _, .int _, .int _, .int _] (tX6_add _ _ _ hF _ _ _ _ _ _ _ q226 h1) ⟨rfl, rfl⟩ cd_X6_add wX6_71 nm_X6_add rfl (by rw [hRm]; decide) rfl (Nat.le_of_ble_eq_true rfl) dX6_giveDue_138 ?_
        refine r_aload_n (pc := 141) dX6_giveDue_141 rfl rfl ?_
        refine r_iload_n (pc := 142) dX6_giveDue_142 rfl rfl ?_
        refine r_bipush (pc := 143) (v := 13) dX6_giveDue_143 (by decide) ?_
        refine r_iload (pc := 145) dX6_giveDue_145 rfl ?_
        obtain ⟨m227, q229, h⟩ := gCv_some h
        refine r_callS (pc := 147) [.ref _, .int _, .int _, .int _] (tX6_add _ _ _ hF _ _ _ _ _ _ _ q229 h1) ⟨rfl, rfl⟩ cd_X6_add wX6_71 nm_X6_add rfl (by rw [hRm]; decide) rfl (Nat.le_of_ble_eq_true rfl) dX6_giveDue_147 ?_
        refine r_iload_n (pc := 150) dX6_giveDue_150 rfl rfl ?_
        refine r_iload (pc := 151) dX6_giveDue_151 rfl ?_
        refine r_isub (pc := 153) dX6_giveDue_153 ?_
        exact r_iretH dX6_giveDue_154 h he
      · refine r_iload (pc := 100) dX6_giveDue_100 rfl ?_
        refine r_iload (pc := 102) dX6_giveDue_102 rfl ?_
        refine r_icmp_ge (pc := 104) (tgt := 111) dX6_giveDue_104 (by decide) h (fun h => ?_) (fun h => ?_)
        · refine r_iconst (pc := 111) (v := 0) dX6_giveDue_111 (by decide) ?_
          refine r_istore (pc := 112) dX6_giveDue_112 (by rw [hnL]; decide) rfl ?_
          refine r_aload_n (pc := 114) dX6_giveDue_114 rfl rfl ?_
          refine r_bipush (pc := 115) (v := 9) dX6_giveDue_115 (by decide) ?_
          refine r_dup2 (pc := 117) dX6_giveDue_117 rfl rfl ?_
          refine r_iald (pc := 118) dX6_giveDue_118 h1 h (fun x230 h => ?_)
          refine r_iload (pc := 119) dX6_giveDue_119 rfl ?_
          refine r_iadd (pc := 121) dX6_giveDue_121 ?_
          refine r_iast (pc := 122) dX6_giveDue_122 h1 h (fun m231 h => ?_)
          refine r_aload_n (pc := 123) dX6_giveDue_123 rfl rfl ?_
          refine r_bipush (pc := 124) (v := 10) dX6_giveDue_124 (by decide) ?_
          refine r_dup2 (pc := 126) dX6_giveDue_126 rfl rfl ?_
          refine r_iald (pc := 127) dX6_giveDue_127 h1 h (fun x232 h => ?_)
          refine r_iload (pc := 128) dX6_giveDue_128 rfl ?_
          refine r_iadd (pc := 130) dX6_giveDue_130 ?_
          refine r_iast (pc := 131) dX6_giveDue_131 h1 h (fun m233 h => ?_)
          refine r_aload_n (pc := 132) dX6_giveDue_132 rfl rfl ?_
          refine r_iload_n (pc := 133) dX6_giveDue_133 rfl rfl ?_
          refine r_bipush (pc := 134) (v := 12) dX6_giveDue_134 (by decide) ?_
          refine r_iload (pc := 136) dX6_giveDue_136 rfl ?_
          obtain ⟨m234, q236, h⟩ := gCv_some h
          refine r_callS (pc := 138) [.ref _, .int _, .int _, .int _] (tX6_add _ _ _ hF _ _ _ _ _ _ _ q236 h1) ⟨rfl, rfl⟩ cd_X6_add wX6_71 nm_X6_add rfl (by rw [hRm]; decide) rfl (Nat.le_of_ble_eq_true rfl) dX6_giveDue_138 ?_
          refine r_aload_n (pc := 141) dX6_giveDue_141 rfl rfl ?_
          refine r_iload_n (pc := 142) dX6_giveDue_142 rfl rfl ?_
          refine r_bipush (pc := 143) (v := 13) dX6_giveDue_143 (by decide) ?_
          refine r_iload (pc := 145) dX6_giveDue_145 rfl ?_
          obtain ⟨m237, q239, h⟩ := gCv_some h
          refine r_callS (pc := 147) [.ref _, .int _, .int _, .int _] (tX6_add _ _ _ hF _ _ _ _ _ _ _ q239 h1) ⟨rfl, rfl⟩ cd_X6_add wX6_71 nm_X6_add rfl (by rw [hRm]; decide) rfl (Nat.le_of_ble_eq_true rfl) dX6_giveDue_147 ?_
          refine r_iload_n (pc := 150) dX6_giveDue_150 rfl rfl ?_
          refine r_iload (pc := 151) dX6_giveDue_151 rfl ?_
          refine r_isub (pc := 153) dX6_giveDue_153 ?_
          exact r_iretH dX6_giveDue_154 h he
        · refine r_iconst (pc := 107) (v := 1) dX6_giveDue_107 (by decide) ?_
          refine r_goto (pc := 108) (tgt := 112) dX6_giveDue_108 (by decide) ?_
          refine r_istore (pc := 112) dX6_giveDue_112 (by rw [hnL]; decide) rfl ?_
          refine r_aload_n (pc := 114) dX6_giveDue_114 rfl rfl ?_
          refine r_bipush (pc := 115) (v := 9) dX6_giveDue_115 (by decide) ?_
          refine r_dup2 (pc := 117) dX6_giveDue_117 rfl rfl ?_
          refine r_iald (pc := 118) dX6_giveDue_118 h1 h (fun x240 h => ?_)
          refine r_iload (pc := 119) dX6_giveDue_119 rfl ?_
          refine r_iadd (pc := 121) dX6_giveDue_121 ?_
          refine r_iast (pc := 122) dX6_giveDue_122 h1 h (fun m241 h => ?_)
          refine r_aload_n (pc := 123) dX6_giveDue_123 rfl rfl ?_
          refine r_bipush (pc := 124) (v := 10) dX6_giveDue_124 (by decide) ?_
          refine r_dup2 (pc := 126) dX6_giveDue_126 rfl rfl ?_
          refine r_iald (pc := 127) dX6_giveDue_127 h1 h (fun x242 h => ?_)
          refine r_iload (pc := 128) dX6_giveDue_128 rfl ?_
          refine r_iadd (pc := 130) dX6_giveDue_130 ?_
          refine r_iast (pc := 131) dX6_giveDue_131 h1 h (fun m243 h => ?_)
          refine r_aload_n (pc := 132) dX6_giveDue_132 rfl rfl ?_
          refine r_iload_n (pc := 133) dX6_giveDue_133 rfl rfl ?_
          refine r_bipush (pc := 134) (v := 12) dX6_giveDue_134 (by decide) ?_
          refine r_iload (pc := 136) dX6_giveDue_136 rfl ?_
          obtain ⟨m244, q246, h⟩ := gCv_some h
          refine r_callS (pc := 138) [.ref _, .int _, .int _, .int _] (tX6_add _ _ _ hF _ _ _ _ _ _ _ q246 h1) ⟨rfl, rfl⟩ cd_X6_add wX6_71 nm_X6_add rfl (by rw [hRm]; decide) rfl (Nat.le_of_ble_eq_true rfl) dX6_giveDue_138 ?_
          refine r_aload_n (pc := 141) dX6_giveDue_141 rfl rfl ?_
          refine r_iload_n (pc := 142) dX6_giveDue_142 rfl rfl ?_
          refine r_bipush (pc := 143) (v := 13) dX6_giveDue_143 (by decide) ?_
          refine r_iload (pc := 145) dX6_giveDue_145 rfl ?_
          obtain ⟨m247, q249, h⟩ := gCv_some h
          refine r_callS (pc := 147) [.ref _, .int _, .int _, .int _] (tX6_add _ _ _ hF _ _ _ _ _ _ _ q249 h1) ⟨rfl, rfl⟩ cd_X6_add wX6_71 nm_X6_add rfl (by rw [hRm]; decide) rfl (Nat.le_of_ble_eq_true rfl) dX6_giveDue_147 ?_
          refine r_iload_n (pc := 150) dX6_giveDue_150 rfl rfl ?_
          refine r_iload (pc := 151) dX6_giveDue_151 rfl ?_
          refine r_isub (pc := 153) dX6_giveDue_153 ?_
          exact r_iretH dX6_giveDue_154 h he
    · refine r_iload (pc := 83) dX6_giveDue_83 rfl ?_
      refine r_if_ne (pc := 85) (tgt := 92) dX6_giveDue_85 (by decide) h (fun h => ?_) (fun h => ?_)
      · refine r_iconst (pc := 92) (v := 0) dX6_giveDue_92 (by decide) ?_
        refine r_istore (pc := 93) dX6_giveDue_93 (by rw [hnL]; decide) rfl ?_
        refine r_iload (pc := 95) dX6_giveDue_95 rfl ?_
        refine r_if_le (pc := 97) (tgt := 111) dX6_giveDue_97 (by decide) h (fun h => ?_) (fun h => ?_)
        · refine r_iconst (pc := 111) (v := 0) dX6_giveDue_111 (by decide) ?_
          refine r_istore (pc := 112) dX6_giveDue_112 (by rw [hnL]; decide) rfl ?_
          refine r_aload_n (pc := 114) dX6_giveDue_114 rfl rfl ?_
          refine r_bipush (pc := 115) (v := 9) dX6_giveDue_115 (by decide) ?_
          refine r_dup2 (pc := 117) dX6_giveDue_117 rfl rfl ?_
          refine r_iald (pc := 118) dX6_giveDue_118 h1 h (fun x250 h => ?_)
          refine r_iload (pc := 119) dX6_giveDue_119 rfl ?_
          refine r_iadd (pc := 121) dX6_giveDue_121 ?_
          refine r_iast (pc := 122) dX6_giveDue_122 h1 h (fun m251 h => ?_)
          refine r_aload_n (pc := 123) dX6_giveDue_123 rfl rfl ?_
          refine r_bipush (pc := 124) (v := 10) dX6_giveDue_124 (by decide) ?_
          refine r_dup2 (pc := 126) dX6_giveDue_126 rfl rfl ?_
          refine r_iald (pc := 127) dX6_giveDue_127 h1 h (fun x252 h => ?_)
          refine r_iload (pc := 128) dX6_giveDue_128 rfl ?_
          refine r_iadd (pc := 130) dX6_giveDue_130 ?_
          refine r_iast (pc := 131) dX6_giveDue_131 h1 h (fun m253 h => ?_)
          refine r_aload_n (pc := 132) dX6_giveDue_132 rfl rfl ?_
          refine r_iload_n (pc := 133) dX6_giveDue_133 rfl rfl ?_
          refine r_bipush (pc := 134) (v := 12) dX6_giveDue_134 (by decide) ?_
          refine r_iload (pc := 136) dX6_giveDue_136 rfl ?_
          obtain ⟨m254, q256, h⟩ := gCv_some h
          refine r_callS (pc := 138) [.ref _, .int _, .int _, .int _] (tX6_add _ _ _ hF _ _ _ _ _ _ _ q256 h1) ⟨rfl, rfl⟩ cd_X6_add wX6_71 nm_X6_add rfl (by rw [hRm]; decide) rfl (Nat.le_of_ble_eq_true rfl) dX6_giveDue_138 ?_
          refine r_aload_n (pc := 141) dX6_giveDue_141 rfl rfl ?_
          refine r_iload_n (pc := 142) dX6_giveDue_142 rfl rfl ?_
          refine r_bipush (pc := 143) (v := 13) dX6_giveDue_143 (by decide) ?_
          refine r_iload (pc := 145) dX6_giveDue_145 rfl ?_
          obtain ⟨m257, q259, h⟩ := gCv_some h
          refine r_callS (pc := 147) [.ref _, .int _, .int _, .int _] (tX6_add _ _ _ hF _ _ _ _ _ _ _ q259 h1) ⟨rfl, rfl⟩ cd_X6_add wX6_71 nm_X6_add rfl (by rw [hRm]; decide) rfl (Nat.le_of_ble_eq_true rfl) dX6_giveDue_147 ?_
          refine r_iload_n (pc := 150) dX6_giveDue_150 rfl rfl ?_
          refine r_iload (pc := 151) dX6_giveDue_151 rfl ?_
          refine r_isub (pc := 153) dX6_giveDue_153 ?_
          exact r_iretH dX6_giveDue_154 h he
        · refine r_iload (pc := 100) dX6_giveDue_100 rfl ?_
          refine r_iload (pc := 102) dX6_giveDue_102 rfl ?_
          refine r_icmp_ge (pc := 104) (tgt := 111) dX6_giveDue_104 (by decide) h (fun h => ?_) (fun h => ?_)
          · refine r_iconst (pc := 111) (v := 0) dX6_giveDue_111 (by decide) ?_
            refine r_istore (pc := 112) dX6_giveDue_112 (by rw [hnL]; decide) rfl ?_
            refine r_aload_n (pc := 114) dX6_giveDue_114 rfl rfl ?_
            refine r_bipush (pc := 115) (v := 9) dX6_giveDue_115 (by decide) ?_
            refine r_dup2 (pc := 117) dX6_giveDue_117 rfl rfl ?_
            refine r_iald (pc := 118) dX6_giveDue_118 h1 h (fun x260 h => ?_)
            refine r_iload (pc := 119) dX6_giveDue_119 rfl ?_
            refine r_iadd (pc := 121) dX6_giveDue_121 ?_
            refine r_iast (pc := 122) dX6_giveDue_122 h1 h (fun m261 h => ?_)
            refine r_aload_n (pc := 123) dX6_giveDue_123 rfl rfl ?_
            refine r_bipush (pc := 124) (v := 10) dX6_giveDue_124 (by decide) ?_
            refine r_dup2 (pc := 126) dX6_giveDue_126 rfl rfl ?_
            refine r_iald (pc := 127) dX6_giveDue_127 h1 h (fun x262 h => ?_)
            refine r_iload (pc := 128) dX6_giveDue_128 rfl ?_
            refine r_iadd (pc := 130) dX6_giveDue_130 ?_
            refine r_iast (pc := 131) dX6_giveDue_131 h1 h (fun m263 h => ?_)
            refine r_aload_n (pc := 132) dX6_giveDue_132 rfl rfl ?_
            refine r_iload_n (pc := 133) dX6_giveDue_133 rfl rfl ?_
            refine r_bipush (pc := 134) (v := 12) dX6_giveDue_134 (by decide) ?_
            refine r_iload (pc := 136) dX6_giveDue_136 rfl ?_
            obtain ⟨m264, q266, h⟩ := gCv_some h
            refine r_callS (pc := 138) [.ref _, .int _, .int _, .int _] (tX6_add _ _ _ hF _ _ _ _ _ _ _ q266 h1) ⟨rfl, rfl⟩ cd_X6_add wX6_71 nm_X6_add rfl (by rw [hRm]; decide) rfl (Nat.le_of_ble_eq_true rfl) dX6_giveDue_138 ?_
            refine r_aload_n (pc := 141) dX6_giveDue_141 rfl rfl ?_
            refine r_iload_n (pc := 142) dX6_giveDue_142 rfl rfl ?_
            refine r_bipush (pc := 143) (v := 13) dX6_giveDue_143 (by decide) ?_
            refine r_iload (pc := 145) dX6_giveDue_145 rfl ?_
            obtain ⟨m267, q269, h⟩ := gCv_some h
            refine r_callS (pc := 147) [.ref _, .int _, .int _, .int _] (tX6_add _ _ _ hF _ _ _ _ _ _ _ q269 h1) ⟨rfl, rfl⟩ cd_X6_add wX6_71 nm_X6_add rfl (by rw [hRm]; decide) rfl (Nat.le_of_ble_eq_true rfl) dX6_giveDue_147 ?_
            refine r_iload_n (pc := 150) dX6_giveDue_150 rfl rfl ?_
            refine r_iload (pc := 151) dX6_giveDue_151 rfl ?_
            refine r_isub (pc := 153) dX6_giveDue_153 ?_
            exact r_iretH dX6_giveDue_154 h he
          · refine r_iconst (pc := 107) (v := 1) dX6_giveDue_107 (by decide) ?_
            refine r_goto (pc := 108) (tgt := 112) dX6_giveDue_108 (by decide) ?_
            refine r_istore (pc := 112) dX6_giveDue_112 (by rw [hnL]; decide) rfl ?_
            refine r_aload_n (pc := 114) dX6_giveDue_114 rfl rfl ?_
            refine r_bipush (pc := 115) (v := 9) dX6_giveDue_115 (by decide) ?_
            refine r_dup2 (pc := 117) dX6_giveDue_117 rfl rfl ?_
            refine r_iald (pc := 118) dX6_giveDue_118 h1 h (fun x270 h => ?_)
            refine r_iload (pc := 119) dX6_giveDue_119 rfl ?_
            refine r_iadd (pc := 121) dX6_giveDue_121 ?_
            refine r_iast (pc := 122) dX6_giveDue_122 h1 h (fun m271 h => ?_)
            refine r_aload_n (pc := 123) dX6_giveDue_123 rfl rfl ?_
            refine r_bipush (pc := 124) (v := 10) dX6_giveDue_124 (by decide) ?_
            refine r_dup2 (pc := 126) dX6_giveDue_126 rfl rfl ?_
            refine r_iald (pc := 127) dX6_giveDue_127 h1 h (fun x272 h => ?_)
            refine r_iload (pc := 128) dX6_giveDue_128 rfl ?_
            refine r_iadd (pc := 130) dX6_giveDue_130 ?_
            refine r_iast (pc := 131) dX6_giveDue_131 h1 h (fun m273 h => ?_)
            refine r_aload_n (pc := 132) dX6_giveDue_132 rfl rfl ?_
            refine r_iload_n (pc := 133) dX6_giveDue_133 rfl rfl ?_
            refine r_bipush (pc := 134) (v := 12) dX6_giveDue_134 (by decide) ?_
            refine r_iload (pc := 136) dX6_giveDue_136 rfl ?_
            obtain ⟨m274, q276, h⟩ := gCv_some h
            refine r_callS (pc := 138) [.ref _, .int _, .int _, .int _] (tX6_add _ _ _ hF _ _ _ _ _ _ _ q276 h1) ⟨rfl, rfl⟩ cd_X6_add wX6_71 nm_X6_add rfl (by rw [hRm]; decide) rfl (Nat.le_of_ble_eq_true rfl) dX6_giveDue_138 ?_
            refine r_aload_n (pc := 141) dX6_giveDue_141 rfl rfl ?_
            refine r_iload_n (pc := 142) dX6_giveDue_142 rfl rfl ?_
            refine r_bipush (pc := 143) (v := 13) dX6_giveDue_143 (by decide) ?_
            refine r_iload (pc := 145) dX6_giveDue_145 rfl ?_
            obtain ⟨m277, q279, h⟩ := gCv_some h
            refine r_callS (pc := 147) [.ref _, .int _, .int _, .int _] (tX6_add _ _ _ hF _ _ _ _ _ _ _ q279 h1) ⟨rfl, rfl⟩ cd_X6_add wX6_71 nm_X6_add rfl (by rw [hRm]; decide) rfl (Nat.le_of_ble_eq_true rfl) dX6_giveDue_147 ?_
            refine r_iload_n (pc := 150) dX6_giveDue_150 rfl rfl ?_
            refine r_iload (pc := 151) dX6_giveDue_151 rfl ?_
            refine r_isub (pc := 153) dX6_giveDue_153 ?_
            exact r_iretH dX6_giveDue_154 h he
      · refine r_iconst (pc := 88) (v := 1) dX6_giveDue_88 (by decide) ?_
        refine r_goto (pc := 89) (tgt := 93) dX6_giveDue_89 (by decide) ?_
        refine r_istore (pc := 93) dX6_giveDue_93 (by rw [hnL]; decide) rfl ?_
        refine r_iload (pc := 95) dX6_giveDue_95 rfl ?_
        refine r_if_le (pc := 97) (tgt := 111) dX6_giveDue_97 (by decide) h (fun h => ?_) (fun h => ?_)
        · refine r_iconst (pc := 111) (v := 0) dX6_giveDue_111 (by decide) ?_
          refine r_istore (pc := 112) dX6_giveDue_112 (by rw [hnL]; decide) rfl ?_
          refine r_aload_n (pc := 114) dX6_giveDue_114 rfl rfl ?_
          refine r_bipush (pc := 115) (v := 9) dX6_giveDue_115 (by decide) ?_
          refine r_dup2 (pc := 117) dX6_giveDue_117 rfl rfl ?_
          refine r_iald (pc := 118) dX6_giveDue_118 h1 h (fun x280 h => ?_)
          refine r_iload (pc := 119) dX6_giveDue_119 rfl ?_
          refine r_iadd (pc := 121) dX6_giveDue_121 ?_
          refine r_iast (pc := 122) dX6_giveDue_122 h1 h (fun m281 h => ?_)
          refine r_aload_n (pc := 123) dX6_giveDue_123 rfl rfl ?_
          refine r_bipush (pc := 124) (v := 10) dX6_giveDue_124 (by decide) ?_
          refine r_dup2 (pc := 126) dX6_giveDue_126 rfl rfl ?_
          refine r_iald (pc := 127) dX6_giveDue_127 h1 h (fun x282 h => ?_)
          refine r_iload (pc := 128) dX6_giveDue_128 rfl ?_
          refine r_iadd (pc := 130) dX6_giveDue_130 ?_
          refine r_iast (pc := 131) dX6_giveDue_131 h1 h (fun m283 h => ?_)
          refine r_aload_n (pc := 132) dX6_giveDue_132 rfl rfl ?_
          refine r_iload_n (pc := 133) dX6_giveDue_133 rfl rfl ?_
          refine r_bipush (pc := 134) (v := 12) dX6_giveDue_134 (by decide) ?_
          refine r_iload (pc := 136) dX6_giveDue_136 rfl ?_
          obtain ⟨m284, q286, h⟩ := gCv_some h
          refine r_callS (pc := 138) [.ref _, .int _, .int _, .int _] (tX6_add _ _ _ hF _ _ _ _ _ _ _ q286 h1) ⟨rfl, rfl⟩ cd_X6_add wX6_71 nm_X6_add rfl (by rw [hRm]; decide) rfl (Nat.le_of_ble_eq_true rfl) dX6_giveDue_138 ?_
          refine r_aload_n (pc := 141) dX6_giveDue_141 rfl rfl ?_
          refine r_iload_n (pc := 142) dX6_giveDue_142 rfl rfl ?_
          refine r_bipush (pc := 143) (v := 13) dX6_giveDue_143 (by decide) ?_
          refine r_iload (pc := 145) dX6_giveDue_145 rfl ?_
          obtain ⟨m287, q289, h⟩ := gCv_some h
          refine r_callS (pc := 147) [.ref _, .int _, .int _, .int _] (tX6_add _ _ _ hF _ _ _ _ _ _ _ q289 h1) ⟨rfl, rfl⟩ cd_X6_add wX6_71 nm_X6_add rfl (by rw [hRm]; decide) rfl (Nat.le_of_ble_eq_true rfl) dX6_giveDue_147 ?_
          refine r_iload_n (pc := 150) dX6_giveDue_150 rfl rfl ?_
          refine r_iload (pc := 151) dX6_giveDue_151 rfl ?_
          refine r_isub (pc := 153) dX6_giveDue_153 ?_
          exact r_iretH dX6_giveDue_154 h he
        · refine r_iload (pc := 100) dX6_giveDue_100 rfl ?_
          refine r_iload (pc := 102) dX6_giveDue_102 rfl ?_
          refine r_icmp_ge (pc := 104) (tgt := 111) dX6_giveDue_104 (by decide) h (fun h => ?_) (fun h => ?_)
          · refine r_iconst (pc := 111) (v := 0) dX6_giveDue_111 (by decide) ?_
            refine r_istore (pc := 112) dX6_giveDue_112 (by rw [hnL]; decide) rfl ?_
            refine r_aload_n (pc := 114) dX6_giveDue_114 rfl rfl ?_
            refine r_bipush (pc := 115) (v := 9) dX6_giveDue_115 (by decide) ?_
            refine r_dup2 (pc := 117) dX6_giveDue_117 rfl rfl ?_
            refine r_iald (pc := 118) dX6_giveDue_118 h1 h (fun x290 h => ?_)
            refine r_iload (pc := 119) dX6_giveDue_119 rfl ?_
            refine r_iadd (pc := 121) dX6_giveDue_121 ?_
            refine r_iast (pc := 122) dX6_giveDue_122 h1 h (fun m291 h => ?_)
            refine r_aload_n (pc := 123) dX6_giveDue_123 rfl rfl ?_
            refine r_bipush (pc := 124) (v := 10) dX6_giveDue_124 (by decide) ?_
            refine r_dup2 (pc := 126) dX6_giveDue_126 rfl rfl ?_
            refine r_iald (pc := 127) dX6_giveDue_127 h1 h (fun x292 h => ?_)
            refine r_iload (pc := 128) dX6_giveDue_128 rfl ?_
            refine r_iadd (pc := 130) dX6_giveDue_130 ?_
            refine r_iast (pc := 131) dX6_giveDue_131 h1 h (fun m293 h => ?_)
            refine r_aload_n (pc := 132) dX6_giveDue_132 rfl rfl ?_
            refine r_iload_n (pc := 133) dX6_giveDue_133 rfl rfl ?_
            refine r_bipush (pc := 134) (v := 12) dX6_giveDue_134 (by decide) ?_
            refine r_iload (pc := 136) dX6_giveDue_136 rfl ?_
            obtain ⟨m294, q296, h⟩ := gCv_some h
            refine r_callS (pc := 138) [.ref _, .int _, .int _, .int _] (tX6_add _ _ _ hF _ _ _ _ _ _ _ q296 h1) ⟨rfl, rfl⟩ cd_X6_add wX6_71 nm_X6_add rfl (by rw [hRm]; decide) rfl (Nat.le_of_ble_eq_true rfl) dX6_giveDue_138 ?_
            refine r_aload_n (pc := 141) dX6_giveDue_141 rfl rfl ?_
            refine r_iload_n (pc := 142) dX6_giveDue_142 rfl rfl ?_
            refine r_bipush (pc := 143) (v := 13) dX6_giveDue_143 (by decide) ?_
            refine r_iload (pc := 145) dX6_giveDue_145 rfl ?_
            obtain ⟨m297, q299, h⟩ := gCv_some h
            refine r_callS (pc := 147) [.ref _, .int _, .int _, .int _] (tX6_add _ _ _ hF _ _ _ _ _ _ _ q299 h1) ⟨rfl, rfl⟩ cd_X6_add wX6_71 nm_X6_add rfl (by rw [hRm]; decide) rfl (Nat.le_of_ble_eq_true rfl) dX6_giveDue_147 ?_
            refine r_iload_n (pc := 150) dX6_giveDue_150 rfl rfl ?_
            refine r_iload (pc := 151) dX6_giveDue_151 rfl ?_
            refine r_isub (pc := 153) dX6_giveDue_153 ?_
            exact r_iretH dX6_giveDue_154 h he
          · refine r_iconst (pc := 107) (v := 1) dX6_giveDue_107 (by decide) ?_
            refine r_goto (pc := 108) (tgt := 112) dX6_giveDue_108 (by decide) ?_
            refine r_istore (pc := 112) dX6_giveDue_112 (by rw [hnL]; decide) rfl ?_
            refine r_aload_n (pc := 114) dX6_giveDue_114 rfl rfl ?_
            refine r_bipush (pc := 115) (v := 9) dX6_giveDue_115 (by decide) ?_
            refine r_dup2 (pc := 117) dX6_giveDue_117 rfl rfl ?_
            refine r_iald (pc := 118) dX6_giveDue_118 h1 h (fun x300 h => ?_)
            refine r_iload (pc := 119) dX6_giveDue_119 rfl ?_
            refine r_iadd (pc := 121) dX6_giveDue_121 ?_
            refine r_iast (pc := 122) dX6_giveDue_122 h1 h (fun m301 h => ?_)
            refine r_aload_n (pc := 123) dX6_giveDue_123 rfl rfl ?_
            refine r_bipush (pc := 124) (v := 10) dX6_giveDue_124 (by decide) ?_
            refine r_dup2 (pc := 126) dX6_giveDue_126 rfl rfl ?_
            refine r_iald (pc := 127) dX6_giveDue_127 h1 h (fun x302 h => ?_)
            refine r_iload (pc := 128) dX6_giveDue_128 rfl ?_
            refine r_iadd (pc := 130) dX6_giveDue_130 ?_
            refine r_iast (pc := 131) dX6_giveDue_131 h1 h (fun m303 h => ?_)
            refine r_aload_n (pc := 132) dX6_giveDue_132 rfl rfl ?_
            refine r_iload_n (pc := 133) dX6_giveDue_133 rfl rfl ?_
            refine r_bipush (pc := 134) (v := 12) dX6_giveDue_134 (by decide) ?_
            refine r_iload (pc := 136) dX6_giveDue_136 rfl ?_
            obtain ⟨m304, q306, h⟩ := gCv_some h
            refine r_callS (pc := 138) [.ref _, .int _, .int _, .int _] (tX6_add _ _ _ hF _ _ _ _ _ _ _ q306 h1) ⟨rfl, rfl⟩ cd_X6_add wX6_71 nm_X6_add rfl (by rw [hRm]; decide) rfl (Nat.le_of_ble_eq_true rfl) dX6_giveDue_138 ?_
            refine r_aload_n (pc := 141) dX6_giveDue_141 rfl rfl ?_
            refine r_iload_n (pc := 142) dX6_giveDue_142 rfl rfl ?_
            refine r_bipush (pc := 143) (v := 13) dX6_giveDue_143 (by decide) ?_
            refine r_iload (pc := 145) dX6_giveDue_145 rfl ?_
            obtain ⟨m307, q309, h⟩ := gCv_some h
            refine r_callS (pc := 147) [.ref _, .int _, .int _, .int _] (tX6_add _ _ _ hF _ _ _ _ _ _ _ q309 h1) ⟨rfl, rfl⟩ cd_X6_add wX6_71 nm_X6_add rfl (by rw [hRm]; decide) rfl (Nat.le_of_ble_eq_true rfl) dX6_giveDue_147 ?_
            refine r_iload_n (pc := 150) dX6_giveDue_150 rfl rfl ?_
            refine r_iload (pc := 151) dX6_giveDue_151 rfl ?_
            refine r_isub (pc := 153) dX6_giveDue_153 ?_
            exact r_iretH dX6_giveDue_154 h he
def fX6_giveGood (a1 a1n : Nat) (p2 : Int32) (p3 : Int32) (p4 : Int32) (m : gM) : Option (gM × Int32) := gCl (fX6_isOpen a1 a1n p2 p3 m) fun m1 x2 => (if x2 = 0 then gCl (fX6_of a1 a1n p2 8 m1) fun m4 x5 => gRd m4 a1 a1n 13 fun x7 => (if x7 ≤ x5 then gRd m4 a1 a1n 13 fun x8 => (if (0 : Int32) = 0 then gRd m4 a1 a1n 4 fun x25 => gWr m4 a1 a1n 4 (x25 + 0) fun m26 => gCv (fX6_add a1 a1n p2 10 0 m26) fun m27 => gCv (fX6_add a1 a1n p2 8 (-0) m27) fun m30 => some (m30, (p4 - 0)) else (if p4 ≤ x8 then gRd m4 a1 a1n 4 fun x9 => gWr m4 a1 a1n 4 (x9 + p4) fun m10 => gCv (fX6_add a1 a1n p2 10 p4 m10) fun m11 => gCv (fX6_add a1 a1n p2 8 (-p4) m11) fun m14 => some (m14, (p4 - p4)) else gRd m4 a1 a1n 4 fun x17 => gWr m4 a1 a1n 4 (x17 + x8) fun m18 => gCv (fX6_add a1 a1n p2 10 x8 m18) fun m19 => gCv (fX6_add a1 a1n p2 8 (-x8) m19) fun m22 => some (m22, (p4 - x8)))) else gCl (fX6_of a1 a1n p2 8 m4) fun m33 x34 => (if (0 : Int32) = 0 then gRd m33 a1 a1n 4 fun x52 => gWr m33 a1 a1n 4 (x52 + 0) fun m53 => gCv (fX6_add a1 a1n p2 10 0 m53) fun m54 => gCv (fX6_add a1 a1n p2 8 (-0) m54) fun m57 => some (m57, (p4 - 0)) else (if p4 ≤ x34 then gRd m33 a1 a1n 4 fun x36 => gWr m33 a1 a1n 4 (x36 + p4) fun m37 => gCv (fX6_add a1 a1n p2 10 p4 m37) fun m38 => gCv (fX6_add a1 a1n p2 8 (-p4) m38) fun m41 => some (m41, (p4 - p4)) else gRd m33 a1 a1n 4 fun x44 => gWr m33 a1 a1n 4 (x44 + x34) fun m45 => gCv (fX6_add a1 a1n p2 10 x34 m45) fun m46 => gCv (fX6_add a1 a1n p2 8 (-x34) m46) fun m49 => some (m49, (p4 - x34))))) else gCl (fX6_isAway a1 a1n p2 p3 m1) fun m60 x61 => (if x61 = 0 then gCl (fX6_of a1 a1n p2 8 m60) fun m119 x120 => gRd m119 a1 a1n 13 fun x122 => (if x122 ≤ x120 then gRd m119 a1 a1n 13 fun x123 => (if (1 : Int32) = 0 then gRd m119 a1 a1n 4 fun x140 => gWr m119 a1 a1n 4 (x140 + 0) fun m141 => gCv (fX6_add a1 a1n p2 10 0 m141) fun m142 => gCv (fX6_add a1 a1n p2 8 (-0) m142) fun m145 => some (m145, (p4 - 0)) else (if p4 ≤ x123 then gRd m119 a1 a1n 4 fun x124 => gWr m119 a1 a1n 4 (x124 + p4) fun m125 => gCv (fX6_add a1 a1n p2 10 p4 m125) fun m126 => gCv (fX6_add a1 a1n p2 8 (-p4) m126) fun m129 => some (m129, (p4 - p4)) else gRd m119 a1 a1n 4 fun x132 => gWr m119 a1 a1n 4 (x132 + x123) fun m133 => gCv (fX6_add a1 a1n p2 10 x123 m133) fun m134 => gCv (fX6_add a1 a1n p2 8 (-x123) m134) fun m137 => some (m137, (p4 - x123)))) else gCl (fX6_of a1 a1n p2 8 m119) fun m148 x149 => (if (1 : Int32) = 0 then gRd m148 a1 a1n 4 fun x167 => gWr m148 a1 a1n 4 (x167 + 0) fun m168 => gCv (fX6_add a1 a1n p2 10 0 m168) fun m169 => gCv (fX6_add a1 a1n p2 8 (-0) m169) fun m172 => some (m172, (p4 - 0)) else (if p4 ≤ x149 then gRd m148 a1 a1n 4 fun x151 => gWr m148 a1 a1n 4 (x151 + p4) fun m152 => gCv (fX6_add a1 a1n p2 10 p4 m152) fun m153 => gCv (fX6_add a1 a1n p2 8 (-p4) m153) fun m156 => some (m156, (p4 - p4)) else gRd m148 a1 a1n 4 fun x159 => gWr m148 a1 a1n 4 (x159 + x149) fun m160 => gCv (fX6_add a1 a1n p2 10 x149 m160) fun m161 => gCv (fX6_add a1 a1n p2 8 (-x149) m161) fun m164 => some (m164, (p4 - x149))))) else gCl (fX6_of a1 a1n p2 8 m60) fun m63 x64 => gRd m63 a1 a1n 13 fun x66 => (if x66 ≤ x64 then gRd m63 a1 a1n 13 fun x67 => (if (0 : Int32) = 0 then gRd m63 a1 a1n 4 fun x84 => gWr m63 a1 a1n 4 (x84 + 0) fun m85 => gCv (fX6_add a1 a1n p2 10 0 m85) fun m86 => gCv (fX6_add a1 a1n p2 8 (-0) m86) fun m89 => some (m89, (p4 - 0)) else (if p4 ≤ x67 then gRd m63 a1 a1n 4 fun x68 => gWr m63 a1 a1n 4 (x68 + p4) fun m69 => gCv (fX6_add a1 a1n p2 10 p4 m69) fun m70 => gCv (fX6_add a1 a1n p2 8 (-p4) m70) fun m73 => some (m73, (p4 - p4)) else gRd m63 a1 a1n 4 fun x76 => gWr m63 a1 a1n 4 (x76 + x67) fun m77 => gCv (fX6_add a1 a1n p2 10 x67 m77) fun m78 => gCv (fX6_add a1 a1n p2 8 (-x67) m78) fun m81 => some (m81, (p4 - x67)))) else gCl (fX6_of a1 a1n p2 8 m63) fun m92 x93 => (if (0 : Int32) = 0 then gRd m92 a1 a1n 4 fun x111 => gWr m92 a1 a1n 4 (x111 + 0) fun m112 => gCv (fX6_add a1 a1n p2 10 0 m112) fun m113 => gCv (fX6_add a1 a1n p2 8 (-0) m113) fun m116 => some (m116, (p4 - 0)) else (if p4 ≤ x93 then gRd m92 a1 a1n 4 fun x95 => gWr m92 a1 a1n 4 (x95 + p4) fun m96 => gCv (fX6_add a1 a1n p2 10 p4 m96) fun m97 => gCv (fX6_add a1 a1n p2 8 (-p4) m97) fun m100 => some (m100, (p4 - p4)) else gRd m92 a1 a1n 4 fun x103 => gWr m92 a1 a1n 4 (x103 + x93) fun m104 => gCv (fX6_add a1 a1n p2 10 x93 m104) fun m105 => gCv (fX6_add a1 a1n p2 8 (-x93) m105) fun m108 => some (m108, (p4 - x93)))))))
abbrev rmX6_giveGood : Room := { frames := 2, cells := 0, slots := 0, locals := 49 }
set_option maxHeartbeats 4000000 in
set_option maxRecDepth 100000 in
theorem tX6_giveGood (l : Launch) (G : gX) (u : gU) (hF : gFull u) (a1 a1n : Nat) (p2 : Int32) (p3 : Int32) (p4 : Int32) (m : gM) (o : gM × Int32) (h : fX6_giveGood a1 a1n p2 p3 p4 m = some o) (h1 : gIn u a1 7 a1n) : gMet l G u yX6_giveGood (.code yX6_giveGood cX6_giveGood 7 (some .int)) rmX6_giveGood [.ref a1, .int p2, .int p3, .int p4] m o.1 (some (.int o.2)) := by
  refine gMet_of (own := RX6) (k := 3) (by decide) rfl ⟨rfl, rfl⟩ (Nat.le_of_ble_eq_true rfl) [some (.ref a1), some (.int p2), some (.int p3), some (.int p4), none, none, none] rfl (fun Y hG hu hnL hLn hRm he => ?_)
  subst hG hu hLn
  unfold fX6_giveGood at h
  refine r_aload_n (pc := 0) dX6_giveGood_0 rfl rfl ?_
  refine r_iload_n (pc := 1) dX6_giveGood_1 rfl rfl ?_
  refine r_iload_n (pc := 2) dX6_giveGood_2 rfl rfl ?_
  obtain ⟨m1, x2, q3, h⟩ := gCl_some h
  refine r_callS (pc := 3) [.ref _, .int _, .int _] (tX6_isOpen _ _ _ hF _ _ _ _ _ _ q3 h1) ⟨rfl, rfl⟩ cd_X6_isOpen wX6_68 nm_X6_isOpen rfl (by rw [hRm]; decide) rfl (Nat.le_of_ble_eq_true rfl) dX6_giveGood_3 ?_
  refine r_if_eq (pc := 6) (tgt := 22) dX6_giveGood_6 (by decide) h (fun h => ?_) (fun h => ?_)
  · refine r_iconst (pc := 22) (v := 0) dX6_giveGood_22 (by decide) ?_
    refine r_istore (pc := 23) dX6_giveGood_23 (by rw [hnL]; decide) rfl ?_
    refine r_aload_n (pc := 25) dX6_giveGood_25 rfl rfl ?_
    refine r_iload_n (pc := 26) dX6_giveGood_26 rfl rfl ?_
    refine r_bipush (pc := 27) (v := 8) dX6_giveGood_27 (by decide) ?_
    obtain ⟨m4, x5, q6, h⟩ := gCl_some h
    refine r_callS (pc := 29) [.ref _, .int _, .int _] (tX6_of _ _ _ hF _ _ _ _ _ _ q6 h1) ⟨rfl, rfl⟩ cd_X6_of wX6_53 nm_X6_of rfl (by rw [hRm]; decide) rfl (Nat.le_of_ble_eq_true rfl) dX6_giveGood_29 ?_
    refine r_aload_n (pc := 32) dX6_giveGood_32 rfl rfl ?_
    refine r_bipush (pc := 33) (v := 13) dX6_giveGood_33 (by decide) ?_
    refine r_iald (pc := 35) dX6_giveGood_35 h1 h (fun x7 h => ?_)
    refine r_icmp_ge (pc := 36) (tgt := 49) dX6_giveGood_36 (by decide) h (fun h => ?_) (fun h => ?_)
    · refine r_aload_n (pc := 49) dX6_giveGood_49 rfl rfl ?_
      refine r_bipush (pc := 50) (v := 13) dX6_giveGood_50 (by decide) ?_
      refine r_iald (pc := 52) dX6_giveGood_52 h1 h (fun x8 h => ?_)
      refine r_istore (pc := 53) dX6_giveGood_53 (by rw [hnL]; decide) rfl ?_
      refine r_iload (pc := 55) dX6_giveGood_55 rfl ?_
      refine r_if_ne (pc := 57) (tgt := 64) dX6_giveGood_57 (by decide) h (fun h => ?_) (fun h => ?_)
      · refine r_iload (pc := 64) dX6_giveGood_64 rfl ?_
        refine r_iload_n (pc := 66) dX6_giveGood_66 rfl rfl ?_
        refine r_icmp_ge (pc := 67) (tgt := 75) dX6_giveGood_67 (by decide) h (fun h => ?_) (fun h => ?_)
        · refine r_iload_n (pc := 75) dX6_giveGood_75 rfl rfl ?_
          refine r_istore (pc := 76) dX6_giveGood_76 (by rw [hnL]; decide) rfl ?_
          refine r_aload_n (pc := 78) dX6_giveGood_78 rfl rfl ?_
          refine r_iconst (pc := 79) (v := 4) dX6_giveGood_79 (by decide) ?_
          refine r_dup2 (pc := 80) dX6_giveGood_80 rfl rfl ?_
          refine r_iald (pc := 81) dX6_giveGood_81 h1 h (fun x9 h => ?_)
          refine r_iload (pc := 82) dX6_giveGood_82 rfl ?_
          refine r_iadd (pc := 84) dX6_giveGood_84 ?_
          refine r_iast (pc := 85) dX6_giveGood_85 h1 h (fun m10 h => ?_)
          refine r_aload_n (pc := 86) dX6_giveGood_86 rfl rfl ?_
          refine r_iload_n (pc := 87) dX6_giveGood_87 rfl rfl ?_
          refine r_bipush (pc := 88) (v := 10) dX6_giveGood_88 (by decide) ?_
          refine r_iload (pc := 90) dX6_giveGood_90 rfl ?_
          obtain ⟨m11, q13, h⟩ := gCv_some h
          refine r_callS (pc := 92) [.ref _, .int _, .int _, .int _] (tX6_add _ _ _ hF _ _ _ _ _ _ _ q13 h1) ⟨rfl, rfl⟩ cd_X6_add wX6_71 nm_X6_add rfl (by rw [hRm]; decide) rfl (Nat.le_of_ble_eq_true rfl) dX6_giveGood_92 ?_
          refine r_aload_n (pc := 95) dX6_giveGood_95 rfl rfl ?_
          refine r_iload_n (pc := 96) dX6_giveGood_96 rfl rfl ?_
          refine r_bipush (pc := 97) (v := 8) dX6_giveGood_97 (by decide) ?_
          refine r_iload (pc := 99) dX6_giveGood_99 rfl ?_
          refine r_ineg (pc := 101) dX6_giveGood_101 ?_
          obtain ⟨m14, q16, h⟩ := gCv_some h
          refine r_callS (pc := 102) [.ref _, .int _, .int _, .int _] (tX6_add _ _ _ hF _ _ _ _ _ _ _ q16 h1) ⟨rfl, rfl⟩ cd_X6_add wX6_71 nm_X6_add rfl (by rw [hRm]; decide) rfl (Nat.le_of_ble_eq_true rfl) dX6_giveGood_102 ?_
          refine r_iload_n (pc := 105) dX6_giveGood_105 rfl rfl ?_
          refine r_iload (pc := 106) dX6_giveGood_106 rfl ?_
          refine r_isub (pc := 108) dX6_giveGood_108 ?_
          exact r_iretH dX6_giveGood_109 h he
        · refine r_iload (pc := 70) dX6_giveGood_70 rfl ?_
          refine r_goto (pc := 72) (tgt := 76) dX6_giveGood_72 (by decide) ?_
          refine r_istore (pc := 76) dX6_giveGood_76 (by rw [hnL]; decide) rfl ?_
          refine r_aload_n (pc := 78) dX6_giveGood_78 rfl rfl ?_
          refine r_iconst (pc := 79) (v := 4) dX6_giveGood_79 (by decide) ?_
          refine r_dup2 (pc := 80) dX6_giveGood_80 rfl rfl ?_
          refine r_iald (pc := 81) dX6_giveGood_81 h1 h (fun x17 h => ?_)
          refine r_iload (pc := 82) dX6_giveGood_82 rfl ?_
          refine r_iadd (pc := 84) dX6_giveGood_84 ?_
          refine r_iast (pc := 85) dX6_giveGood_85 h1 h (fun m18 h => ?_)
          refine r_aload_n (pc := 86) dX6_giveGood_86 rfl rfl ?_
          refine r_iload_n (pc := 87) dX6_giveGood_87 rfl rfl ?_
          refine r_bipush (pc := 88) (v := 10) dX6_giveGood_88 (by decide) ?_
          refine r_iload (pc := 90) dX6_giveGood_90 rfl ?_
          obtain ⟨m19, q21, h⟩ := gCv_some h
          refine r_callS (pc := 92) [.ref _, .int _, .int _, .int _] (tX6_add _ _ _ hF _ _ _ _ _ _ _ q21 h1) ⟨rfl, rfl⟩ cd_X6_add wX6_71 nm_X6_add rfl (by rw [hRm]; decide) rfl (Nat.le_of_ble_eq_true rfl) dX6_giveGood_92 ?_
          refine r_aload_n (pc := 95) dX6_giveGood_95 rfl rfl ?_
          refine r_iload_n (pc := 96) dX6_giveGood_96 rfl rfl ?_
          refine r_bipush (pc := 97) (v := 8) dX6_giveGood_97 (by decide) ?_
          refine r_iload (pc := 99) dX6_giveGood_99 rfl ?_
          refine r_ineg (pc := 101) dX6_giveGood_101 ?_
          obtain ⟨m22, q24, h⟩ := gCv_some h
          refine r_callS (pc := 102) [.ref _, .int _, .int _, .int _] (tX6_add _ _ _ hF _ _ _ _ _ _ _ q24 h1) ⟨rfl, rfl⟩ cd_X6_add wX6_71 nm_X6_add rfl (by rw [hRm]; decide) rfl (Nat.le_of_ble_eq_true rfl) dX6_giveGood_102 ?_
          refine r_iload_n (pc := 105) dX6_giveGood_105 rfl rfl ?_
          refine r_iload (pc := 106) dX6_giveGood_106 rfl ?_
          refine r_isub (pc := 108) dX6_giveGood_108 ?_
          exact r_iretH dX6_giveGood_109 h he
      · refine r_iconst (pc := 60) (v := 0) dX6_giveGood_60 (by decide) ?_
        refine r_goto (pc := 61) (tgt := 76) dX6_giveGood_61 (by decide) ?_
        refine r_istore (pc := 76) dX6_giveGood_76 (by rw [hnL]; decide) rfl ?_
        refine r_aload_n (pc := 78) dX6_giveGood_78 rfl rfl ?_
        refine r_iconst (pc := 79) (v := 4) dX6_giveGood_79 (by decide) ?_
        refine r_dup2 (pc := 80) dX6_giveGood_80 rfl rfl ?_
        refine r_iald (pc := 81) dX6_giveGood_81 h1 h (fun x25 h => ?_)
        refine r_iload (pc := 82) dX6_giveGood_82 rfl ?_
        refine r_iadd (pc := 84) dX6_giveGood_84 ?_
        refine r_iast (pc := 85) dX6_giveGood_85 h1 h (fun m26 h => ?_)
        refine r_aload_n (pc := 86) dX6_giveGood_86 rfl rfl ?_
        refine r_iload_n (pc := 87) dX6_giveGood_87 rfl rfl ?_
        refine r_bipush (pc := 88) (v := 10) dX6_giveGood_88 (by decide) ?_
        refine r_iload (pc := 90) dX6_giveGood_90 rfl ?_
        obtain ⟨m27, q29, h⟩ := gCv_some h
        refine r_callS (pc := 92) [.ref _, .int _, .int _, .int _] (tX6_add _ _ _ hF _ _ _ _ _ _ _ q29 h1) ⟨rfl, rfl⟩ cd_X6_add wX6_71 nm_X6_add rfl (by rw [hRm]; decide) rfl (Nat.le_of_ble_eq_true rfl) dX6_giveGood_92 ?_
        refine r_aload_n (pc := 95) dX6_giveGood_95 rfl rfl ?_
        refine r_iload_n (pc := 96) dX6_giveGood_96 rfl rfl ?_
        refine r_bipush (pc := 97) (v := 8) dX6_giveGood_97 (by decide) ?_
        refine r_iload (pc := 99) dX6_giveGood_99 rfl ?_
        refine r_ineg (pc := 101) dX6_giveGood_101 ?_
        obtain ⟨m30, q32, h⟩ := gCv_some h
        refine r_callS (pc := 102) [.ref _, .int _, .int _, .int _] (tX6_add _ _ _ hF _ _ _ _ _ _ _ q32 h1) ⟨rfl, rfl⟩ cd_X6_add wX6_71 nm_X6_add rfl (by rw [hRm]; decide) rfl (Nat.le_of_ble_eq_true rfl) dX6_giveGood_102 ?_
        refine r_iload_n (pc := 105) dX6_giveGood_105 rfl rfl ?_
        refine r_iload (pc := 106) dX6_giveGood_106 rfl ?_
        refine r_isub (pc := 108) dX6_giveGood_108 ?_
        exact r_iretH dX6_giveGood_109 h he
    · refine r_aload_n (pc := 39) dX6_giveGood_39 rfl rfl ?_
      refine r_iload_n (pc := 40) dX6_giveGood_40 rfl rfl ?_
      refine r_bipush (pc := 41) (v := 8) dX6_giveGood_41 (by decide) ?_
      obtain ⟨m33, x34, q35, h⟩ := gCl_some h
      refine r_callS (pc := 43) [.ref _, .int _, .int _] (tX6_of _ _ _ hF _ _ _ _ _ _ q35 h1) ⟨rfl, rfl⟩ cd_X6_of wX6_53 nm_X6_of rfl (by rw [hRm]; decide) rfl (Nat.le_of_ble_eq_true rfl) dX6_giveGood_43 ?_
      refine r_goto (pc := 46) (tgt := 53) dX6_giveGood_46 (by decide) ?_
      refine r_istore (pc := 53) dX6_giveGood_53 (by rw [hnL]; decide) rfl ?_
      refine r_iload (pc := 55) dX6_giveGood_55 rfl ?_
      refine r_if_ne (pc := 57) (tgt := 64) dX6_giveGood_57 (by decide) h (fun h => ?_) (fun h => ?_)
      · refine r_iload (pc := 64) dX6_giveGood_64 rfl ?_
        refine r_iload_n (pc := 66) dX6_giveGood_66 rfl rfl ?_
        refine r_icmp_ge (pc := 67) (tgt := 75) dX6_giveGood_67 (by decide) h (fun h => ?_) (fun h => ?_)
        · refine r_iload_n (pc := 75) dX6_giveGood_75 rfl rfl ?_
          refine r_istore (pc := 76) dX6_giveGood_76 (by rw [hnL]; decide) rfl ?_
          refine r_aload_n (pc := 78) dX6_giveGood_78 rfl rfl ?_
          refine r_iconst (pc := 79) (v := 4) dX6_giveGood_79 (by decide) ?_
          refine r_dup2 (pc := 80) dX6_giveGood_80 rfl rfl ?_
          refine r_iald (pc := 81) dX6_giveGood_81 h1 h (fun x36 h => ?_)
          refine r_iload (pc := 82) dX6_giveGood_82 rfl ?_
          refine r_iadd (pc := 84) dX6_giveGood_84 ?_
          refine r_iast (pc := 85) dX6_giveGood_85 h1 h (fun m37 h => ?_)
          refine r_aload_n (pc := 86) dX6_giveGood_86 rfl rfl ?_
          refine r_iload_n (pc := 87) dX6_giveGood_87 rfl rfl ?_
          refine r_bipush (pc := 88) (v := 10) dX6_giveGood_88 (by decide) ?_
          refine r_iload (pc := 90) dX6_giveGood_90 rfl ?_
          obtain ⟨m38, q40, h⟩ := gCv_some h
          refine r_callS (pc := 92) [.ref _, .int _, .int _, .int _] (tX6_add _ _ _ hF _ _ _ _ _ _ _ q40 h1) ⟨rfl, rfl⟩ cd_X6_add wX6_71 nm_X6_add rfl (by rw [hRm]; decide) rfl (Nat.le_of_ble_eq_true rfl) dX6_giveGood_92 ?_
          refine r_aload_n (pc := 95) dX6_giveGood_95 rfl rfl ?_
          refine r_iload_n (pc := 96) dX6_giveGood_96 rfl rfl ?_
          refine r_bipush (pc := 97) (v := 8) dX6_giveGood_97 (by decide) ?_
          refine r_iload (pc := 99) dX6_giveGood_99 rfl ?_
          refine r_ineg (pc := 101) dX6_giveGood_101 ?_
          obtain ⟨m41, q43, h⟩ := gCv_some h
          refine r_callS (pc := 102) [.ref _, .int _, .int _, .int _] (tX6_add _ _ _ hF _ _ _ _ _ _ _ q43 h1) ⟨rfl, rfl⟩ cd_X6_add wX6_71 nm_X6_add rfl (by rw [hRm]; decide) rfl (Nat.le_of_ble_eq_true rfl) dX6_giveGood_102 ?_
          refine r_iload_n (pc := 105) dX6_giveGood_105 rfl rfl ?_
          refine r_iload (pc := 106) dX6_giveGood_106 rfl ?_
          refine r_isub (pc := 108) dX6_giveGood_108 ?_
          exact r_iretH dX6_giveGood_109 h he
        · refine r_iload (pc := 70) dX6_giveGood_70 rfl ?_
          refine r_goto (pc := 72) (tgt := 76) dX6_giveGood_72 (by decide) ?_
          refine r_istore (pc := 76) dX6_giveGood_76 (by rw [hnL]; decide) rfl ?_
          refine r_aload_n (pc := 78) dX6_giveGood_78 rfl rfl ?_
          refine r_iconst (pc := 79) (v := 4) dX6_giveGood_79 (by decide) ?_
          refine r_dup2 (pc := 80) dX6_giveGood_80 rfl rfl ?_
          refine r_iald (pc := 81) dX6_giveGood_81 h1 h (fun x44 h => ?_)
          refine r_iload (pc := 82) dX6_giveGood_82 rfl ?_
          refine r_iadd (pc := 84) dX6_giveGood_84 ?_
          refine r_iast (pc := 85) dX6_giveGood_85 h1 h (fun m45 h => ?_)
          refine r_aload_n (pc := 86) dX6_giveGood_86 rfl rfl ?_
          refine r_iload_n (pc := 87) dX6_giveGood_87 rfl rfl ?_
          refine r_bipush (pc := 88) (v := 10) dX6_giveGood_88 (by decide) ?_
          refine r_iload (pc := 90) dX6_giveGood_90 rfl ?_
          obtain ⟨m46, q48, h⟩ := gCv_some h
          refine r_callS (pc := 92) [.ref _, .int _, .int _, .int _] (tX6_add _ _ _ hF _ _ _ _ _ _ _ q48 h1) ⟨rfl, rfl⟩ cd_X6_add wX6_71 nm_X6_add rfl (by rw [hRm]; decide) rfl (Nat.le_of_ble_eq_true rfl) dX6_giveGood_92 ?_
          refine r_aload_n (pc := 95) dX6_giveGood_95 rfl rfl ?_
          refine r_iload_n (pc := 96) dX6_giveGood_96 rfl rfl ?_
          refine r_bipush (pc := 97) (v := 8) dX6_giveGood_97 (by decide) ?_
          refine r_iload (pc := 99) dX6_giveGood_99 rfl ?_
          refine r_ineg (pc := 101) dX6_giveGood_101 ?_
          obtain ⟨m49, q51, h⟩ := gCv_some h
          refine r_callS (pc := 102) [.ref _, .int _, .int _, .int _] (tX6_add _ _ _ hF _ _ _ _ _ _ _ q51 h1) ⟨rfl, rfl⟩ cd_X6_add wX6_71 nm_X6_add rfl (by rw [hRm]; decide) rfl (Nat.le_of_ble_eq_true rfl) dX6_giveGood_102 ?_
          refine r_iload_n (pc := 105) dX6_giveGood_105 rfl rfl ?_
          refine r_iload (pc := 106) dX6_giveGood_106 rfl ?_
          refine r_isub (pc := 108) dX6_giveGood_108 ?_
          exact r_iretH dX6_giveGood_109 h he
      · refine r_iconst (pc := 60) (v := 0) dX6_giveGood_60 (by decide) ?_
        refine r_goto (pc := 61) (tgt := 76) dX6_giveGood_61 (by decide) ?_
        refine r_istore (pc := 76) dX6_giveGood_76 (by rw [hnL]; decide) rfl ?_
        refine r_aload_n (pc := 78) dX6_giveGood_78 rfl rfl ?_
        refine r_iconst (pc := 79) (v := 4) dX6_giveGood_79 (by decide) ?_
        refine r_dup2 (pc := 80) dX6_giveGood_80 rfl rfl ?_
        refine r_iald (pc := 81) dX6_giveGood_81 h1 h (fun x52 h => ?_)
        refine r_iload (pc := 82) dX6_giveGood_82 rfl ?_
        refine r_iadd (pc := 84) dX6_giveGood_84 ?_
        refine r_iast (pc := 85) dX6_giveGood_85 h1 h (fun m53 h => ?_)
        refine r_aload_n (pc := 86) dX6_giveGood_86 rfl rfl ?_
        refine r_iload_n (pc := 87) dX6_giveGood_87 rfl rfl ?_
        refine r_bipush (pc := 88) (v := 10) dX6_giveGood_88 (by decide) ?_
        refine r_iload (pc := 90) dX6_giveGood_90 rfl ?_
        obtain ⟨m54, q56, h⟩ := gCv_some h
        refine r_callS (pc := 92) [.ref _, .int _, .int _, .int _] (tX6_add _ _ _ hF _ _ _ _ _ _ _ q56 h1) ⟨rfl, rfl⟩ cd_X6_add wX6_71 nm_X6_add rfl (by rw [hRm]; decide) rfl (Nat.le_of_ble_eq_true rfl) dX6_giveGood_92 ?_
        refine r_aload_n (pc := 95) dX6_giveGood_95 rfl rfl ?_
        refine r_iload_n (pc := 96) dX6_giveGood_96 rfl rfl ?_
        refine r_bipush (pc := 97) (v := 8) dX6_giveGood_97 (by decide) ?_
        refine r_iload (pc := 99) dX6_giveGood_99 rfl ?_
        refine r_ineg (pc := 101) dX6_giveGood_101 ?_
        obtain ⟨m57, q59, h⟩ := gCv_some h
        refine r_callS (pc := 102) [.ref _, .int _, .int _, .int _] (tX6_add _ _ _ hF _ _ _ _ _ _ _ q59 h1) ⟨rfl, rfl⟩ cd_X6_add wX6_71 nm_X6_add rfl (by rw [hRm]; decide) rfl (Nat.le_of_ble_eq_true rfl) dX6_giveGood_102 ?_
        refine r_iload_n (pc := 105) dX6_giveGood_105 rfl rfl ?_
        refine r_iload (pc := 106) dX6_giveGood_106 rfl ?_
        refine r_isub (pc := 108) dX6_giveGood_108 ?_
        exact r_iretH dX6_giveGood_109 h he
  · refine r_aload_n (pc := 9) dX6_giveGood_9 rfl rfl ?_
    refine r_iload_n (pc := 10) dX6_giveGood_10 rfl rfl ?_
    refine r_iload_n (pc := 11) dX6_giveGood_11 rfl rfl ?_
    obtain ⟨m60, x61, q62, h⟩ := gCl_some h
    refine r_callS (pc := 12) [.ref _, .int _, .int _] (tX6_isAway _ _ _ hF _ _ _ _ _ _ q62 h1) ⟨rfl, rfl⟩ cd_X6_isAway wX6_57 nm_X6_isAway rfl (by rw [hRm]; decide) rfl (Nat.le_of_ble_eq_true rfl) dX6_giveGood_12 ?_
    refine r_if_ne (pc := 15) (tgt := 22) dX6_giveGood_15 (by decide) h (fun h => ?_) (fun h => ?_)
    · refine r_iconst (pc := 22) (v := 0) dX6_giveGood_22 (by decide) ?_
      refine r_istore (pc := 23) dX6_giveGood_23 (by rw [hnL]; decide) rfl ?_
      refine r_aload_n (pc := 25) dX6_giveGood_25 rfl rfl ?_
      refine r_iload_n (pc := 26) dX6_giveGood_26 rfl rfl ?_
      refine r_bipush (pc := 27) (v := 8) dX6_giveGood_27 (by decide) ?_
      obtain ⟨m63, x64, q65, h⟩ := gCl_some h
      refine r_callS (pc := 29) [.ref _, .int _, .int _] (tX6_of _ _ _ hF _ _ _ _ _ _ q65 h1) ⟨rfl, rfl⟩ cd_X6_of wX6_53 nm_X6_of rfl (by rw [hRm]; decide) rfl (Nat.le_of_ble_eq_true rfl) dX6_giveGood_29 ?_
      refine r_aload_n (pc := 32) dX6_giveGood_32 rfl rfl ?_
      refine r_bipush (pc := 33) (v := 13) dX6_giveGood_33 (by decide) ?_
      refine r_iald (pc := 35) dX6_giveGood_35 h1 h (fun x66 h => ?_)
      refine r_icmp_ge (pc := 36) (tgt := 49) dX6_giveGood_36 (by decide) h (fun h => ?_) (fun h => ?_)
      · refine r_aload_n (pc := 49) dX6_giveGood_49 rfl rfl ?_
        refine r_bipush (pc := 50) (v := 13) dX6_giveGood_50 (by decide) ?_
        refine r_iald (pc := 52) dX6_giveGood_52 h1 h (fun x67 h => ?_)
        refine r_istore (pc := 53) dX6_giveGood_53 (by rw [hnL]; decide) rfl ?_
        refine r_iload (pc := 55) dX6_giveGood_55 rfl ?_
        refine r_if_ne (pc := 57) (tgt := 64) dX6_giveGood_57 (by decide) h (fun h => ?_) (fun h => ?_)
        · refine r_iload (pc := 64) dX6_giveGood_64 rfl ?_
          refine r_iload_n (pc := 66) dX6_giveGood_66 rfl rfl ?_
          refine r_icmp_ge (pc := 67) (tgt := 75) dX6_giveGood_67 (by decide) h (fun h => ?_) (fun h => ?_)
          · refine r_iload_n (pc := 75) dX6_giveGood_75 rfl rfl ?_
            refine r_istore (pc := 76) dX6_giveGood_76 (by rw [hnL]; decide) rfl ?_
            refine r_aload_n (pc := 78) dX6_giveGood_78 rfl rfl ?_
            refine r_iconst (pc := 79) (v := 4) dX6_giveGood_79 (by decide) ?_
            refine r_dup2 (pc := 80) dX6_giveGood_80 rfl rfl ?_
            refine r_iald (pc := 81) dX6_giveGood_81 h1 h (fun x68 h => ?_)
            refine r_iload (pc := 82) dX6_giveGood_82 rfl ?_
            refine r_iadd (pc := 84) dX6_giveGood_84 ?_
            refine r_iast (pc := 85) dX6_giveGood_85 h1 h (fun m69 h => ?_)
            refine r_aload_n (pc := 86) dX6_giveGood_86 rfl rfl ?_
            refine r_iload_n (pc := 87) dX6_giveGood_87 rfl rfl ?_
            refine r_bipush (pc := 88) (v := 10) dX6_giveGood_88 (by decide) ?_
            refine r_iload (pc := 90) dX6_giveGood_90 rfl ?_
            obtain ⟨m70, q72, h⟩ := gCv_some h
            refine r_callS (pc := 92) [.ref _, .int _, .int _, .int _] (tX6_add _ _ _ hF _ _ _ _ _ _ _ q72 h1) ⟨rfl, rfl⟩ cd_X6_add wX6_71 nm_X6_add rfl (by rw [hRm]; decide) rfl (Nat.le_of_ble_eq_true rfl) dX6_giveGood_92 ?_
            refine r_aload_n (pc := 95) dX6_giveGood_95 rfl rfl ?_
            refine r_iload_n (pc := 96) dX6_giveGood_96 rfl rfl ?_
            refine r_bipush (pc := 97) (v := 8) dX6_giveGood_97 (by decide) ?_
            refine r_iload (pc := 99) dX6_giveGood_99 rfl ?_
            refine r_ineg (pc := 101) dX6_giveGood_101 ?_
            obtain ⟨m73, q75, h⟩ := gCv_some h
            refine r_callS (pc := 102) [.ref _, .int _, .int _, .int _] (tX6_add _ _ _ hF _ _ _ _ _ _ _ q75 h1) ⟨rfl, rfl⟩ cd_X6_add wX6_71 nm_X6_add rfl (by rw [hRm]; decide) rfl (Nat.le_of_ble_eq_true rfl) dX6_giveGood_102 ?_
            refine r_iload_n (pc := 105) dX6_giveGood_105 rfl rfl ?_
            refine r_iload (pc := 106) dX6_giveGood_106 rfl ?_
            refine r_isub (pc := 108) dX6_giveGood_108 ?_
            exact r_iretH dX6_giveGood_109 h he
          · refine r_iload (pc := 70) dX6_giveGood_70 rfl ?_
            refine r_goto (pc := 72) (tgt := 76) dX6_giveGood_72 (by decide) ?_
            refine r_istore (pc := 76) dX6_giveGood_76 (by rw [hnL]; decide) rfl ?_
            refine r_aload_n (pc := 78) dX6_giveGood_78 rfl rfl ?_
            refine r_iconst (pc := 79) (v := 4) dX6_giveGood_79 (by decide) ?_
            refine r_dup2 (pc := 80) dX6_giveGood_80 rfl rfl ?_
            refine r_iald (pc := 81) dX6_giveGood_81 h1 h (fun x76 h => ?_)
            refine r_iload (pc := 82) dX6_giveGood_82 rfl ?_
            refine r_iadd (pc := 84) dX6_giveGood_84 ?_
            refine r_iast (pc := 85) dX6_giveGood_85 h1 h (fun m77 h => ?_)
            refine r_aload_n (pc := 86) dX6_giveGood_86 rfl rfl ?_
            refine r_iload_n (pc := 87) dX6_giveGood_87 rfl rfl ?_
            refine r_bipush (pc := 88) (v := 10) dX6_giveGood_88 (by decide) ?_
            refine r_iload (pc := 90) dX6_giveGood_90 rfl ?_
            obtain ⟨m78, q80, h⟩ := gCv_some h
            refine r_callS (pc := 92) [.ref _, .int _, .int _, .int _] (tX6_add _ _ _ hF _ _ _ _ _ _ _ q80 h1) ⟨rfl, rfl⟩ cd_X6_add wX6_71 nm_X6_add rfl (by rw [hRm]; decide) rfl (Nat.le_of_ble_eq_true rfl) dX6_giveGood_92 ?_
            refine r_aload_n (pc := 95) dX6_giveGood_95 rfl rfl ?_
            refine r_iload_n (pc := 96) dX6_giveGood_96 rfl rfl ?_
            refine r_bipush (pc := 97) (v := 8) dX6_giveGood_97 (by decide) ?_
            refine r_iload (pc := 99) dX6_giveGood_99 rfl ?_
            refine r_ineg (pc := 101) dX6_giveGood_101 ?_
            obtain ⟨m81, q83, h⟩ := gCv_some h
            refine r_callS (pc := 102) [.ref _, .int _, .int _, .int _] (tX6_add _ _ _ hF _ _ _ _ _ _ _ q83 h1) ⟨rfl, rfl⟩ cd_X6_add wX6_71 nm_X6_add rfl (by rw [hRm]; decide) rfl (Nat.le_of_ble_eq_true rfl) dX6_giveGood_102 ?_
            refine r_iload_n (pc := 105) dX6_giveGood_105 rfl rfl ?_
            refine r_iload (pc := 106) dX6_giveGood_106 rfl ?_
            refine r_isub (pc := 108) dX6_giveGood_108 ?_
            exact r_iretH dX6_giveGood_109 h he
        · refine r_iconst (pc := 60) (v := 0) dX6_giveGood_60 (by decide) ?_
          refine r_goto (pc := 61) (tgt := 76) dX6_giveGood_61 (by decide) ?_
          refine r_istore (pc := 76) dX6_giveGood_76 (by rw [hnL]; decide) rfl ?_
          refine r_aload_n (pc := 78) dX6_giveGood_78 rfl rfl ?_
          refine r_iconst (pc := 79) (v := 4) dX6_giveGood_79 (by decide) ?_
          refine r_dup2 (pc := 80) dX6_giveGood_80 rfl rfl ?_
          refine r_iald (pc := 81) dX6_giveGood_81 h1 h (fun x84 h => ?_)
          refine r_iload (pc := 82) dX6_giveGood_82 rfl ?_
          refine r_iadd (pc := 84) dX6_giveGood_84 ?_
          refine r_iast (pc := 85) dX6_giveGood_85 h1 h (fun m85 h => ?_)
          refine r_aload_n (pc := 86) dX6_giveGood_86 rfl rfl ?_
          refine r_iload_n (pc := 87) dX6_giveGood_87 rfl rfl ?_
          refine r_bipush (pc := 88) (v := 10) dX6_giveGood_88 (by decide) ?_
          refine r_iload (pc := 90) dX6_giveGood_90 rfl ?_
          obtain ⟨m86, q88, h⟩ := gCv_some h
          refine r_callS (pc := 92) [.ref _, .int _, .int _, .int _] (tX6_add _ _ _ hF _ _ _ _ _ _ _ q88 h1) ⟨rfl, rfl⟩ cd_X6_add wX6_71 nm_X6_add rfl (by rw [hRm]; decide) rfl (Nat.le_of_ble_eq_true rfl) dX6_giveGood_92 ?_
          refine r_aload_n (pc := 95) dX6_giveGood_95 rfl rfl ?_
          refine r_iload_n (pc := 96) dX6_giveGood_96 rfl rfl ?_
          refine r_bipush (pc := 97) (v := 8) dX6_giveGood_97 (by decide) ?_
          refine r_iload (pc := 99) dX6_giveGood_99 rfl ?_
          refine r_ineg (pc := 101) dX6_giveGood_101 ?_
          obtain ⟨m89, q91, h⟩ := gCv_some h
          refine r_callS (pc := 102) [.ref _, .int _, .int _, .int _] (tX6_add _ _ _ hF _ _ _ _ _ _ _ q91 h1) ⟨rfl, rfl⟩ cd_X6_add wX6_71 nm_X6_add rfl (by rw [hRm]; decide) rfl (Nat.le_of_ble_eq_true rfl) dX6_giveGood_102 ?_
          refine r_iload_n (pc := 105) dX6_giveGood_105 rfl rfl ?_
          refine r_iload (pc := 106) dX6_giveGood_106 rfl ?_
          refine r_isub (pc := 108) dX6_giveGood_108 ?_
          exact r_iretH dX6_giveGood_109 h he
      · refine r_aload_n (pc := 39) dX6_giveGood_39 rfl rfl ?_
        refine r_iload_n (pc := 40) dX6_giveGood_40 rfl rfl ?_
        refine r_bipush (pc := 41) (v := 8) dX6_giveGood_41 (by decide) ?_
        obtain ⟨m92, x93, q94, h⟩ := gCl_some h
        refine r_callS (pc := 43) [.ref _, .int _, .int _] (tX6_of _ _ _ hF _ _ _ _ _ _ q94 h1) ⟨rfl, rfl⟩ cd_X6_of wX6_53 nm_X6_of rfl (by rw [hRm]; decide) rfl (Nat.le_of_ble_eq_true rfl) dX6_giveGood_43 ?_
        refine r_goto (pc := 46) (tgt := 53) dX6_giveGood_46 (by decide) ?_
        refine r_istore (pc := 53) dX6_giveGood_53 (by rw [hnL]; decide) rfl ?_
        refine r_iload (pc := 55) dX6_giveGood_55 rfl ?_
        refine r_if_ne (pc := 57) (tgt := 64) dX6_giveGood_57 (by decide) h (fun h => ?_) (fun h => ?_)
        · refine r_iload (pc := 64) dX6_giveGood_64 rfl ?_
          refine r_iload_n (pc := 66) dX6_giveGood_66 rfl rfl ?_
          refine r_icmp_ge (pc := 67) (tgt := 75) dX6_giveGood_67 (by decide) h (fun h => ?_) (fun h => ?_)
          · refine r_iload_n (pc := 75) dX6_giveGood_75 rfl rfl ?_
            refine r_istore (pc := 76) dX6_giveGood_76 (by rw [hnL]; decide) rfl ?_
            refine r_aload_n (pc := 78) dX6_giveGood_78 rfl rfl ?_
            refine r_iconst (pc := 79) (v := 4) dX6_giveGood_79 (by decide) ?_
            refine r_dup2 (pc := 80) dX6_giveGood_80 rfl rfl ?_
            refine r_iald (pc := 81) dX6_giveGood_81 h1 h (fun x95 h => ?_)
            refine r_iload (pc := 82) dX6_giveGood_82 rfl ?_
            refine r_iadd (pc := 84) dX6_giveGood_84 ?_
            refine r_iast (pc := 85) dX6_giveGood_85 h1 h (fun m96 h => ?_)
            refine r_aload_n (pc := 86) dX6_giveGood_86 rfl rfl ?_
            refine r_iload_n (pc := 87) dX6_giveGood_87 rfl rfl ?_
            refine r_bipush (pc := 88) (v := 10) dX6_giveGood_88 (by decide) ?_
            refine r_iload (pc := 90) dX6_giveGood_90 rfl ?_
            obtain ⟨m97, q99, h⟩ := gCv_some h
            refine r_callS (pc := 92) [.ref _, .int _, .int _, .int _] (tX6_add _ _ _ hF _ _ _ _ _ _ _ q99 h1) ⟨rfl, rfl⟩ cd_X6_add wX6_71 nm_X6_add rfl (by rw [hRm]; decide) rfl (Nat.le_of_ble_eq_true rfl) dX6_giveGood_92 ?_
            refine r_aload_n (pc := 95) dX6_giveGood_95 rfl rfl ?_
            refine r_iload_n (pc := 96) dX6_giveGood_96 rfl rfl ?_
            refine r_bipush (pc := 97) (v := 8) dX6_giveGood_97 (by decide) ?_
            refine r_iload (pc := 99) dX6_giveGood_99 rfl ?_
            refine r_ineg (pc := 101) dX6_giveGood_101 ?_
            obtain ⟨m100, q102, h⟩ := gCv_some h
            refine r_callS (pc := 102) [.ref _, .int _, .int _, .int _] (tX6_add _ _ _ hF _ _ _ _ _ _ _ q102 h1) ⟨rfl, rfl⟩ cd_X6_add wX6_71 nm_X6_add rfl (by rw [hRm]; decide) rfl (Nat.le_of_ble_eq_true rfl) dX6_giveGood_102 ?_
            refine r_iload_n (pc := 105) dX6_giveGood_105 rfl rfl ?_
            refine r_iload (pc := 106) dX6_giveGood_106 rfl ?_
            refine r_isub (pc := 108) dX6_giveGood_108 ?_
            exact r_iretH dX6_giveGood_109 h he
          · refine r_iload (pc := 70) dX6_giveGood_70 rfl ?_
            refine r_goto (pc := 72) (tgt := 76) dX6_giveGood_72 (by decide) ?_
            refine r_istore (pc := 76) dX6_giveGood_76 (by rw [hnL]; decide) rfl ?_
            refine r_aload_n (pc := 78) dX6_giveGood_78 rfl rfl ?_
            refine r_iconst (pc := 79) (v := 4) dX6_giveGood_79 (by decide) ?_
            refine r_dup2 (pc := 80) dX6_giveGood_80 rfl rfl ?_
            refine r_iald (pc := 81) dX6_giveGood_81 h1 h (fun x103 h => ?_)
            refine r_iload (pc := 82) dX6_giveGood_82 rfl ?_
            refine r_iadd (pc := 84) dX6_giveGood_84 ?_
            refine r_iast (pc := 85) dX6_giveGood_85 h1 h (fun m104 h => ?_)
            refine r_aload_n (pc := 86) dX6_giveGood_86 rfl rfl ?_
            refine r_iload_n (pc := 87) dX6_giveGood_87 rfl rfl ?_
            refine r_bipush (pc := 88) (v := 10) dX6_giveGood_88 (by decide) ?_
            refine r_iload (pc := 90) dX6_giveGood_90 rfl ?_
            obtain ⟨m105, q107, h⟩ := gCv_some h
            refine r_callS (pc := 92) [.ref _, .int _, .int _, .int _] (tX6_add _ _ _ hF _ _ _ _ _ _ _ q107 h1) ⟨rfl, rfl⟩ cd_X6_add wX6_71 nm_X6_add rfl (by rw [hRm]; decide) rfl (Nat.le_of_ble_eq_true rfl) dX6_giveGood_92 ?_
            refine r_aload_n (pc := 95) dX6_giveGood_95 rfl rfl ?_
            refine r_iload_n (pc := 96) dX6_giveGood_96 rfl rfl ?_
            refine r_bipush (pc := 97) (v := 8) dX6_giveGood_97 (by decide) ?_
            refine r_iload (pc := 99) dX6_giveGood_99 rfl ?_
            refine r_ineg (pc := 101) dX6_giveGood_101 ?_
            obtain ⟨m108, q110, h⟩ := gCv_some h
            refine r_callS (pc := 102) [.ref _, .int _, .int _, .int _] (tX6_add _ _ _ hF _ _ _ _ _ _ _ q110 h1) ⟨rfl, rfl⟩ cd_X6_add wX6_71 nm_X6_add rfl (by rw [hRm]; decide) rfl (Nat.le_of_ble_eq_true rfl) dX6_giveGood_102 ?_
            refine r_iload_n (pc := 105) dX6_giveGood_105 rfl rfl ?_
            refine r_iload (pc := 106) dX6_giveGood_106 rfl ?_
            refine r_isub (pc := 108) dX6_giveGood_108 ?_
            exact r_iretH dX6_giveGood_109 h he
        · refine r_iconst (pc := 60) (v := 0) dX6_giveGood_60 (by decide) ?_
          refine r_goto (pc := 61) (tgt := 76) dX6_giveGood_61 (by decide) ?_
          refine r_istore (pc := 76) dX6_giveGood_76 (by rw [hnL]; decide) rfl ?_
          refine r_aload_n (pc := 78) dX6_giveGood_78 rfl rfl ?_
          refine r_iconst (pc := 79) (v := 4) dX6_giveGood_79 (by decide) ?_
          refine r_dup2 (pc := 80) dX6_giveGood_80 rfl rfl ?_
          refine r_iald (pc := 81) dX6_giveGood_81 h1 h (fun x111 h => ?_)
          refine r_iload (pc := 82) dX6_giveGood_82 rfl ?_
          refine r_iadd (pc := 84) dX6_giveGood_84 ?_
          refine r_iast (pc := 85) dX6_giveGood_85 h1 h (fun m112 h => ?_)
          refine r_aload_n (pc := 86) dX6_giveGood_86 rfl rfl ?_
          refine r_iload_n (pc := 87) dX6_giveGood_87 rfl rfl ?_
          refine r_bipush (pc := 88) (v := 10) dX6_giveGood_88 (by decide) ?_
          refine r_iload (pc := 90) dX6_giveGood_90 rfl ?_
          obtain ⟨m113, q115, h⟩ := gCv_some h
          refine r_callS (pc := 92) [.ref _, .int _, .int _, .int _] (tX6_add _ _ _ hF _ _ _ _ _ _ _ q115 h1) ⟨rfl, rfl⟩ cd_X6_add wX6_71 nm_X6_add rfl (by rw [hRm]; decide) rfl (Nat.le_of_ble_eq_true rfl) dX6_giveGood_92 ?_
          refine r_aload_n (pc := 95) dX6_giveGood_95 rfl rfl ?_
          refine r_iload_n (pc := 96) dX6_giveGood_96 rfl rfl ?_
          refine r_bipush (pc := 97) (v := 8) dX6_giveGood_97 (by decide) ?_
          refine r_iload (pc := 99) dX6_giveGood_99 rfl ?_
          refine r_ineg (pc := 101) dX6_giveGood_101 ?_
          obtain ⟨m116, q118, h⟩ := gCv_some h
          refine r_callS (pc := 102) [.ref _, .int _, .int _, .int _] (tX6_add _ _ _ hF _ _ _ _ _ _ _ q118 h1) ⟨rfl, rfl⟩ cd_X6_add wX6_71 nm_X6_add rfl (by rw [hRm]; decide) rfl (Nat.le_of_ble_eq_true rfl) dX6_giveGood_102 ?_
          refine r_iload_n (pc := 105) dX6_giveGood_105 rfl rfl ?_
          refine r_iload (pc := 106) dX6_giveGood_106 rfl ?_
          refine r_isub (pc := 108) dX6_giveGood_108 ?_
          exact r_iretH dX6_giveGood_109 h he
    · refine r_iconst (pc := 18) (v := 1) dX6_giveGood_18 (by decide) ?_
      refine r_goto (pc := 19) (tgt := 23) dX6_giveGood_19 (by decide) ?_
      refine r_istore (pc := 23) dX6_giveGood_23 (by rw [hnL]; decide) rfl ?_
      refine r_aload_n (pc := 25) dX6_giveGood_25 rfl rfl ?_
      refine r_iload_n (pc := 26) dX6_giveGood_26 rfl rfl ?_
      refine r_bipush (pc := 27) (v := 8) dX6_giveGood_27 (by decide) ?_
      obtain ⟨m119, x120, q121, h⟩ := gCl_some h
      refine r_callS (pc := 29) [.ref _, .int _, .int _] (tX6_of _ _ _ hF _ _ _ _ _ _ q121 h1) ⟨rfl, rfl⟩ cd_X6_of wX6_53 nm_X6_of rfl (by rw [hRm]; decide) rfl (Nat.le_of_ble_eq_true rfl) dX6_giveGood_29 ?_
      refine r_aload_n (pc := 32) dX6_giveGood_32 rfl rfl ?_
      refine r_bipush (pc := 33) (v := 13) dX6_giveGood_33 (by decide) ?_
      refine r_iald (pc := 35) dX6_giveGood_35 h1 h (fun x122 h => ?_)
      refine r_icmp_ge (pc := 36) (tgt := 49) dX6_giveGood_36 (by decide) h (fun h => ?_) (fun h => ?_)
      · refine r_aload_n (pc := 49) dX6_giveGood_49 rfl rfl ?_
        refine r_bipush (pc := 50) (v := 13) dX6_giveGood_50 (by decide) ?_
        refine r_iald (pc := 52) dX6_giveGood_52 h1 h (fun x123 h => ?_)
        refine r_istore (pc := 53) dX6_giveGood_53 (by rw [hnL]; decide) rfl ?_
        refine r_iload (pc := 55) dX6_giveGood_55 rfl ?_
        refine r_if_ne (pc := 57) (tgt := 64) dX6_giveGood_57 (by decide) h (fun h => ?_) (fun h => ?_)
        · refine r_iload (pc := 64) dX6_giveGood_64 rfl ?_
          refine r_iload_n (pc := 66) dX6_giveGood_66 rfl rfl ?_
          refine r_icmp_ge (pc := 67) (tgt := 75) dX6_giveGood_67 (by decide) h (fun h => ?_) (fun h => ?_)
          · refine r_iload_n (pc := 75) dX6_giveGood_75 rfl rfl ?_
            refine r_istore (pc := 76) dX6_giveGood_76 (by rw [hnL]; decide) rfl ?_
            refine r_aload_n (pc := 78) dX6_giveGood_78 rfl rfl ?_
            refine r_iconst (pc := 79) (v := 4) dX6_giveGood_79 (by decide) ?_
            refine r_dup2 (pc := 80) dX6_giveGood_80 rfl rfl ?_
            refine r_iald (pc := 81) dX6_giveGood_81 h1 h (fun x124 h => ?_)
            refine r_iload (pc := 82) dX6_giveGood_82 rfl ?_
            refine r_iadd (pc := 84) dX6_giveGood_84 ?_
            refine r_iast (pc := 85) dX6_giveGood_85 h1 h (fun m125 h => ?_)
            refine r_aload_n (pc := 86) dX6_giveGood_86 rfl rfl ?_
            refine r_iload_n (pc := 87) dX6_giveGood_87 rfl rfl ?_
            refine r_bipush (pc := 88) (v := 10) dX6_giveGood_88 (by decide) ?_
            refine r_iload (pc := 90) dX6_giveGood_90 rfl ?_
            obtain ⟨m126, q128, h⟩ := gCv_some h
            refine r_callS (pc := 92) [.ref _, .int _, .int _, .int _] (tX6_add _ _ _ hF _ _ _ _ _ _ _ q128 h1) ⟨rfl, rfl⟩ cd_X6_add wX6_71 nm_X6_add rfl (by rw [hRm]; decide) rfl (Nat.le_of_ble_eq_true rfl) dX6_giveGood_92 ?_
            refine r_aload_n (pc := 95) dX6_giveGood_95 rfl rfl ?_
            refine r_iload_n (pc := 96) dX6_giveGood_96 rfl rfl ?_
            refine r_bipush (pc := 97) (v := 8) dX6_giveGood_97 (by decide) ?_
            refine r_iload (pc := 99) dX6_giveGood_99 rfl ?_
            refine r_ineg (pc := 101) dX6_giveGood_101 ?_
            obtain ⟨m129, q131, h⟩ := gCv_some h
            refine r_callS (pc := 102) [.ref _, .int _, .int _, .int _] (tX6_add _ _ _ hF _ _ _ _ _ _ _ q131 h1) ⟨rfl, rfl⟩ cd_X6_add wX6_71 nm_X6_add rfl (by rw [hRm]; decide) rfl (Nat.le_of_ble_eq_true rfl) dX6_giveGood_102 ?_
            refine r_iload_n (pc := 105) dX6_giveGood_105 rfl rfl ?_
            refine r_iload (pc := 106) dX6_giveGood_106 rfl ?_
            refine r_isub (pc := 108) dX6_giveGood_108 ?_
            exact r_iretH dX6_giveGood_109 h he
          · refine r_iload (pc := 70) dX6_giveGood_70 rfl ?_
            refine r_goto (pc := 72) (tgt := 76) dX6_giveGood_72 (by decide) ?_
            refine r_istore (pc := 76) dX6_giveGood_76 (by rw [hnL]; decide) rfl ?_
            refine r_aload_n (pc := 78) dX6_giveGood_78 rfl rfl ?_
            refine r_iconst (pc := 79) (v := 4) dX6_giveGood_79 (by decide) ?_
            refine r_dup2 (pc := 80) dX6_giveGood_80 rfl rfl ?_
            refine r_iald (pc := 81) dX6_giveGood_81 h1 h (fun x132 h => ?_)
            refine r_iload (pc := 82) dX6_giveGood_82 rfl ?_
            refine r_iadd (pc := 84) dX6_giveGood_84 ?_
            refine r_iast (pc := 85) dX6_giveGood_85 h1 h (fun m133 h => ?_)
            refine r_aload_n (pc := 86) dX6_giveGood_86 rfl rfl ?_
            refine r_iload_n (pc := 87) dX6_giveGood_87 rfl rfl ?_
            refine r_bipush (pc := 88) (v := 10) dX6_giveGood_88 (by decide) ?_
            refine r_iload (pc := 90) dX6_giveGood_90 rfl ?_
            obtain ⟨m134, q136, h⟩ := gCv_some h
            refine r_callS (pc := 92) [.ref _, .int _, .int _, .int _] (tX6_add _ _ _ hF _ _ _ _ _ _ _ q136 h1) ⟨rfl, rfl⟩ cd_X6_add wX6_71 nm_X6_add rfl (by rw [hRm]; decide) rfl (Nat.le_of_ble_eq_true rfl) dX6_giveGood_92 ?_
            refine r_aload_n (pc := 95) dX6_giveGood_95 rfl rfl ?_
            refine r_iload_n (pc := 96) dX6_giveGood_96 rfl rfl ?_
            refine r_bipush (pc := 97) (v := 8) dX6_giveGood_97 (by decide) ?_
            refine r_iload (pc := 99) dX6_giveGood_99 rfl ?_
            refine r_ineg (pc := 101) dX6_giveGood_101 ?_
            obtain ⟨m137, q139, h⟩ := gCv_some h
            refine r_callS (pc := 102) [.ref _, .int _, .int _, .int _] (tX6_add _ _ _ hF _ _ _ _ _ _ _ q139 h1) ⟨rfl, rfl⟩ cd_X6_add wX6_71 nm_X6_add rfl (by rw [hRm]; decide) rfl (Nat.le_of_ble_eq_true rfl) dX6_giveGood_102 ?_
            refine r_iload_n (pc := 105) dX6_giveGood_105 rfl rfl ?_
            refine r_iload (pc := 106) dX6_giveGood_106 rfl ?_
            refine r_isub (pc := 108) dX6_giveGood_108 ?_
            exact r_iretH dX6_giveGood_109 h he
        · refine r_iconst (pc := 60) (v := 0) dX6_giveGood_60 (by decide) ?_
          refine r_goto (pc := 61) (tgt := 76) dX6_giveGood_61 (by decide) ?_
          refine r_istore (pc := 76) dX6_giveGood_76 (by rw [hnL]; decide) rfl ?_
          refine r_aload_n (pc := 78) dX6_giveGood_78 rfl rfl ?_
          refine r_iconst (pc := 79) (v := 4) dX6_giveGood_79 (by decide) ?_
          refine r_dup2 (pc := 80) dX6_giveGood_80 rfl rfl ?_
          refine r_iald (pc := 81) dX6_giveGood_81 h1 h (fun x140 h => ?_)
          refine r_iload (pc := 82) dX6_giveGood_82 rfl ?_
          refine r_iadd (pc := 84) dX6_giveGood_84 ?_
          refine r_iast (pc := 85) dX6_giveGood_85 h1 h (fun m141 h => ?_)
          refine r_aload_n (pc := 86) dX6_giveGood_86 rfl rfl ?_
          refine r_iload_n (pc := 87) dX6_giveGood_87 rfl rfl ?_
          refine r_bipush (pc := 88) (v := 10) dX6_giveGood_88 (by decide) ?_
          refine r_iload (pc := 90) dX6_giveGood_90 rfl ?_
          obtain ⟨m142, q144, h⟩ := gCv_some h
          refine r_callS (pc := 92) [.ref _, .int _, .int _, .int _] (tX6_add _ _ _ hF _ _ _ _ _ _ _ q144 h1) ⟨rfl, rfl⟩ cd_X6_add wX6_71 nm_X6_add rfl (by rw [hRm]; decide) rfl (Nat.le_of_ble_eq_true rfl) dX6_giveGood_92 ?_
          refine r_aload_n (pc := 95) dX6_giveGood_95 rfl rfl ?_
          refine r_iload_n (pc := 96) dX6_giveGood_96 rfl rfl ?_
          refine r_bipush (pc := 97) (v := 8) dX6_giveGood_97 (by decide) ?_
          refine r_iload (pc := 99) dX6_giveGood_99 rfl ?_
          refine r_ineg (pc := 101) dX6_giveGood_101 ?_
          obtain ⟨m145, q147, h⟩ := gCv_some h
          refine r_callS (pc := 102) [.ref _, .int _, .int _, .int _] (tX6_add _ _ _ hF _ _ _ _ _ _ _ q147 h1) ⟨rfl, rfl⟩ cd_X6_add wX6_71 nm_X6_add rfl (by rw [hRm]; decide) rfl (Nat.le_of_ble_eq_true rfl) dX6_giveGood_102 ?_
          refine r_iload_n (pc := 105) dX6_giveGood_105 rfl rfl ?_
          refine r_iload (pc := 106) dX6_giveGood_106 rfl ?_
          refine r_isub (pc := 108) dX6_giveGood_108 ?_
          exact r_iretH dX6_giveGood_109 h he
      · refine r_aload_n (pc := 39) dX6_giveGood_39 rfl rfl ?_
        refine r_iload_n (pc := 40) dX6_giveGood_40 rfl rfl ?_
        refine r_bipush (pc := 41) (v := 8) dX6_giveGood_41 (by decide) ?_
        obtain ⟨m148, x149, q150, h⟩ := gCl_some h
        refine r_callS (pc := 43) [.ref _, .int _, .int _] (tX6_of _ _ _ hF _ _ _ _ _ _ q150 h1) ⟨rfl, rfl⟩ cd_X6_of wX6_53 nm_X6_of rfl (by rw [hRm]; decide) rfl (Nat.le_of_ble_eq_true rfl) dX6_giveGood_43 ?_
        refine r_goto (pc := 46) (tgt := 53) dX6_giveGood_46 (by decide) ?_
        refine r_istore (pc := 53) dX6_giveGood_53 (by rw [hnL]; decide) rfl ?_
        refine r_iload (pc := 55) dX6_giveGood_55 rfl ?_
        refine r_if_ne (pc := 57) (tgt := 64) dX6_giveGood_57 (by decide) h (fun h => ?_) (fun h => ?_)
        · refine r_iload (pc := 64) dX6_giveGood_64 rfl ?_
          refine r_iload_n (pc := 66) dX6_giveGood_66 rfl rfl ?_
          refine r_icmp_ge (pc := 67) (tgt := 75) dX6_giveGood_67 (by decide) h (fun h => ?_) (fun h => ?_)
          · refine r_iload_n (pc := 75) dX6_giveGood_75 rfl rfl ?_
            refine r_istore (pc := 76) dX6_giveGood_76 (by rw [hnL]; decide) rfl ?_
            refine r_aload_n (pc := 78) dX6_giveGood_78 rfl rfl ?_
            refine r_iconst (pc := 79) (v := 4) dX6_giveGood_79 (by decide) ?_
            refine r_dup2 (pc := 80) dX6_giveGood_80 rfl rfl ?_
            refine r_iald (pc := 81) dX6_giveGood_81 h1 h (fun x151 h => ?_)
            refine r_iload (pc := 82) dX6_giveGood_82 rfl ?_
            refine r_iadd (pc := 84) dX6_giveGood_84 ?_
            refine r_iast (pc := 85) dX6_giveGood_85 h1 h (fun m152 h => ?_)
            refine r_aload_n (pc := 86) dX6_giveGood_86 rfl rfl ?_
            refine r_iload_n (pc := 87) dX6_giveGood_87 rfl rfl ?_
            refine r_bipush (pc := 88) (v := 10) dX6_giveGood_88 (by decide) ?_
            refine r_iload (pc := 90) dX6_giveGood_90 rfl ?_
            obtain ⟨m153, q155, h⟩ := gCv_some h
            refine r_callS (pc := 92) [.ref _, .int _, .int _, .int _] (tX6_add _ _ _ hF _ _ _ _ _ _ _ q155 h1) ⟨rfl, rfl⟩ cd_X6_add wX6_71 nm_X6_add rfl (by rw [hRm]; decide) rfl (Nat.le_of_ble_eq_true rfl) dX6_giveGood_92 ?_
            refine r_aload_n (pc := 95) dX6_giveGood_95 rfl rfl ?_
            refine r_iload_n (pc := 96) dX6_giveGood_96 rfl rfl ?_
            refine r_bipush (pc := 97) (v := 8) dX6_giveGood_97 (by decide) ?_
            refine r_iload (pc := 99) dX6_giveGood_99 rfl ?_
            refine r_ineg (pc := 101) dX6_giveGood_101 ?_
            obtain ⟨m156, q158, h⟩ := gCv_some h
            refine r_callS (pc := 102) [.ref _, .int _, .int _, .int _] (tX6_add _ _ _ hF _ _ _ _ _ _ _ q158 h1) ⟨rfl, rfl⟩ cd_X6_add wX6_71 nm_X6_add rfl (by rw [hRm]; decide) rfl (Nat.le_of_ble_eq_true rfl) dX6_giveGood_102 ?_
            refine r_iload_n (pc := 105) dX6_giveGood_105 rfl rfl ?_
            refine r_iload (pc := 106) dX6_giveGood_106 rfl ?_
            refine r_isub (pc := 108) dX6_giveGood_108 ?_
            exact r_iretH dX6_giveGood_109 h he
          · refine r_iload (pc := 70) dX6_giveGood_70 rfl ?_
            refine r_goto (pc := 72) (tgt := 76) dX6_giveGood_72 (by decide) ?_
            refine r_istore (pc := 76) dX6_giveGood_76 (by rw [hnL]; decide) rfl ?_
            refine r_aload_n (pc := 78) dX6_giveGood_78 rfl rfl ?_
            refine r_iconst (pc := 79) (v := 4) dX6_giveGood_79 (by decide) ?_
            refine r_dup2 (pc := 80) dX6_giveGood_80 rfl rfl ?_
            refine r_iald (pc := 81) dX6_giveGood_81 h1 h (fun x159 h => ?_)
            refine r_iload (pc := 82) dX6_giveGood_82 rfl ?_
            refine r_iadd (pc := 84) dX6_giveGood_84 ?_
            refine r_iast (pc := 85) dX6_giveGood_85 h1 h (fun m160 h => ?_)
            refine r_aload_n (pc := 86) dX6_giveGood_86 rfl rfl ?_
            refine r_iload_n (pc := 87) dX6_giveGood_87 rfl rfl ?_
            refine r_bipush (pc := 88) (v := 10) dX6_giveGood_88 (by decide) ?_
            refine r_iload (pc := 90) dX6_giveGood_90 rfl ?_
            obtain ⟨m161, q163, h⟩ := gCv_some h
            refine r_callS (pc := 92) [.ref _, .int _, .int _, .int _] (tX6_add _ _ _ hF _ _ _ _ _ _ _ q163 h1) ⟨rfl, rfl⟩ cd_X6_add wX6_71 nm_X6_add rfl (by rw [hRm]; decide) rfl (Nat.le_of_ble_eq_true rfl) dX6_giveGood_92 ?_
            refine r_aload_n (pc := 95) dX6_giveGood_95 rfl rfl ?_
            refine r_iload_n (pc := 96) dX6_giveGood_96 rfl rfl ?_
            refine r_bipush (pc := 97) (v := 8) dX6_giveGood_97 (by decide) ?_
            refine r_iload (pc := 99) dX6_giveGood_99 rfl ?_
            refine r_ineg (pc := 101) dX6_giveGood_101 ?_
            obtain ⟨m164, q166, h⟩ := gCv_some h
            refine r_callS (pc := 102) [.ref _, .int _, .int _, .int _] (tX6_add _ _ _ hF _ _ _ _ _ _ _ q166 h1) ⟨rfl, rfl⟩ cd_X6_add wX6_71 nm_X6_add rfl (by rw [hRm]; decide) rfl (Nat.le_of_ble_eq_true rfl) dX6_giveGood_102 ?_
            refine r_iload_n (pc := 105) dX6_giveGood_105 rfl rfl ?_
            refine r_iload (pc := 106) dX6_giveGood_106 rfl ?_
            refine r_isub (pc := 108) dX6_giveGood_108 ?_
            exact r_iretH dX6_giveGood_109 h he
        · refine r_iconst (pc := 60) (v := 0) dX6_giveGood_60 (by decide) ?_
          refine r_goto (pc := 61) (tgt := 76) dX6_giveGood_61 (by decide) ?_
          refine r_istore (pc := 76) dX6_giveGood_76 (by rw [hnL]; decide) rfl ?_
          refine r_aload_n (pc := 78) dX6_giveGood_78 rfl rfl ?_
          refine r_iconst (pc := 79) (v := 4) dX6_giveGood_79 (by decide) ?_
          refine r_dup2 (pc := 80) dX6_giveGood_80 rfl rfl ?_
          refine r_iald (pc := 81) dX6_giveGood_81 h1 h (fun x167 h => ?_)
          refine r_iload (pc := 82) dX6_giveGood_82 rfl ?_
          refine r_iadd (pc := 84) dX6_giveGood_84 ?_
          refine r_iast (pc := 85) dX6_giveGood_85 h1 h (fun m168 h => ?_)
          refine r_aload_n (pc := 86) dX6_giveGood_86 rfl rfl ?_
          refine r_iload_n (pc := 87) dX6_giveGood_87 rfl rfl ?_
          refine r_bipush (pc := 88) (v := 10) dX6_giveGood_88 (by decide) ?_
          refine r_iload (pc := 90) dX6_giveGood_90 rfl ?_
          obtain ⟨m169, q171, h⟩ := gCv_some h
          refine r_callS (pc := 92) [.ref _, .int _, .int _, .int _] (tX6_add _ _ _ hF _ _ _ _ _ _ _ q171 h1) ⟨rfl, rfl⟩ cd_X6_add wX6_71 nm_X6_add rfl (by rw [hRm]; decide) rfl (Nat.le_of_ble_eq_true rfl) dX6_giveGood_92 ?_
          refine r_aload_n (pc := 95) dX6_giveGood_95 rfl rfl ?_
          refine r_iload_n (pc := 96) dX6_giveGood_96 rfl rfl ?_
          refine r_bipush (pc := 97) (v := 8) dX6_giveGood_97 (by decide) ?_
          refine r_iload (pc := 99) dX6_giveGood_99 rfl ?_
          refine r_ineg (pc := 101) dX6_giveGood_101 ?_
          obtain ⟨m172, q174, h⟩ := gCv_some h
          refine r_callS (pc := 102) [.ref _, .int _, .int _, .int _] (tX6_add _ _ _ hF _ _ _ _ _ _ _ q174 h1) ⟨rfl, rfl⟩ cd_X6_add wX6_71 nm_X6_add rfl (by rw [hRm]; decide) rfl (Nat.le_of_ble_eq_true rfl) dX6_giveGood_102 ?_
          refine r_iload_n (pc := 105) dX6_giveGood_105 rfl rfl ?_
          refine r_iload (pc := 106) dX6_giveGood_106 rfl ?_
          refine r_isub (pc := 108) dX6_giveGood_108 ?_
          exact r_iretH dX6_giveGood_109 h he
def fX6_payBack (a1 a1n : Nat) (p2 : Int32) (m : gM) : Option (gM) := gCl (fX6_of a1 a1n p2 8 m) fun m1 x2 => gRd m1 a1 a1n 14 fun x4 => gLt ((x2 - x4)) fun x5 => (if x5 ≤ 0 then some m1 else gCv (fX6_add a1 a1n p2 8 (-x5) m1) fun m6 => gCv (fX6_add a1 a1n p2 11 x5 m6) fun m9 => gRd m9 a1 a1n 6 fun x12 => gWr m9 a1 a1n 6 (x12 + x5) fun m13 => gRd m13 a1 a1n 8 fun x14 => gRd m13 a1 a1n 15 fun x15 => gWr m13 a1 a1n 8 (x14 + (x5 * x15)) fun m16 => some m16)
abbrev rmX6_payBack : Room := { frames := 1, cells := 0, slots := 0, locals := 23 }
set_option maxHeartbeats 4000000 in
set_option maxRecDepth 100000 in
theorem tX6_payBack (l : Launch) (G : gX) (u : gU) (hF : gFull u) (a1 a1n : Nat) (p2 : Int32) (m : gM) (o : gM) (h : fX6_payBack a1 a1n p2 m = some o) (h1 : gIn u a1 7 a1n) : gMet l G u yX6_payBack (.code yX6_payBack cX6_payBack 3 none) rmX6_payBack [.ref a1, .int p2] m o none := by
  refine gMet_of (own := RX6) (k := 1) (by decide) rfl ⟨rfl, rfl⟩ (Nat.le_of_ble_eq_true rfl) [some (.ref a1), some (.int p2), none] rfl (fun Y hG hu hnL hLn hRm he => ?_)
  subst hG hu hLn
  unfold fX6_payBack at h
  refine r_aload_n (pc := 0) dX6_payBack_0 rfl rfl ?_
  refine r_iload_n (pc := 1) dX6_payBack_1 rfl rfl ?_
  refine r_bipush (pc := 2) (v := 8) dX6_payBack_2 (by decide) ?_
  obtain ⟨m1, x2, q3, h⟩ := gCl_some h
  refine r_callS (pc := 4) [.ref _, .int _, .int _] (tX6_of _ _ _ hF _ _ _ _ _ _ q3 h1) ⟨rfl, rfl⟩ cd_X6_of wX6_53 nm_X6_of rfl (by rw [hRm]; decide) rfl (Nat.le_of_ble_eq_true rfl) dX6_payBack_4 ?_
  refine r_aload_n (pc := 7) dX6_payBack_7 rfl rfl ?_
  refine r_bipush (pc := 8) (v := 14) dX6_payBack_8 (by decide) ?_
  refine r_iald (pc := 10) dX6_payBack_10 h1 h (fun x4 h => ?_)
  refine r_isub (pc := 11) dX6_payBack_11 ?_
  refine r_istore_nL (pc := 12) dX6_payBack_12 rfl (by rw [hnL]; decide) h (fun x5 h => ?_)
  refine r_iload_n (pc := 13) dX6_payBack_13 rfl rfl ?_
  refine r_if_le (pc := 14) (tgt := 55) dX6_payBack_14 (by decide) h (fun h => ?_) (fun h => ?_)
  · exact r_vretH dX6_payBack_55 h he
  · refine r_aload_n (pc := 17) dX6_payBack_17 rfl rfl ?_
    refine r_iload_n (pc := 18) dX6_payBack_18 rfl rfl ?_
    refine r_bipush (pc := 19) (v := 8) dX6_payBack_19 (by decide) ?_
    refine r_iload_n (pc := 21) dX6_payBack_21 rfl rfl ?_
    refine r_ineg (pc := 22) dX6_payBack_22 ?_
    obtain ⟨m6, q8, h⟩ := gCv_some h
    refine r_callS (pc := 23) [.ref _, .int _, .int _, .int _] (tX6_add _ _ _ hF _ _ _ _ _ _ _ q8 h1) ⟨rfl, rfl⟩ cd_X6_add wX6_71 nm_X6_add rfl (by rw [hRm]; decide) rfl (Nat.le_of_ble_eq_true rfl) dX6_payBack_23 ?_
    refine r_aload_n (pc := 26) dX6_payBack_26 rfl rfl ?_
    refine r_iload_n (pc := 27) dX6_payBack_27 rfl rfl ?_
    refine r_bipush (pc := 28) (v := 11) dX6_payBack_28 (by decide) ?_
    refine r_iload_n (pc := 30) dX6_payBack_30 rfl rfl ?_
    obtain ⟨m9, q11, h⟩ := gCv_some h
    refine r_callS (pc := 31) [.ref _, .int _, .int _, .int _] (tX6_add _ _ _ hF _ _ _ _ _ _ _ q11 h1) ⟨rfl, rfl⟩ cd_X6_add wX6_71 nm_X6_add rfl (by rw [hRm]; decide) rfl (Nat.le_of_ble_eq_true rfl) dX6_payBack_31 ?_
    refine r_aload_n (pc := 34) dX6_payBack_34 rfl rfl ?_
    refine r_bipush (pc := 35) (v := 6) dX6_payBack_35 (by decide) ?_
    refine r_dup2 (pc := 37) dX6_payBack_37 rfl rfl ?_
    refine r_iald (pc := 38) dX6_payBack_38 h1 h (fun x12 h => ?_)
    refine r_iload_n (pc := 39) dX6_payBack_39 rfl rfl ?_
    refine r_iadd (pc := 40) dX6_payBack_40 ?_
    refine r_iast (pc := 41) dX6_payBack_41 h1 h (fun m13 h => ?_)
    refine r_aload_n (pc := 42) dX6_payBack_42 rfl rfl ?_
    refine r_bipush (pc := 43) (v := 8) dX6_payBack_43 (by decide) ?_
    refine r_dup2 (pc := 45) dX6_payBack_45 rfl rfl ?_
    refine r_iald (pc := 46) dX6_payBack_46 h1 h (fun x14 h => ?_)
    refine r_iload_n (pc := 47) dX6_payBack_47 rfl rfl ?_
    refine r_aload_n (pc := 48) dX6_payBack_48 rfl rfl ?_
    refine r_bipush (pc := 49) (v := 15) dX6_payBack_49 (by decide) ?_
    refine r_iald (pc := 51) dX6_payBack_51 h1 h (fun x15 h => ?_)
    refine r_imul (pc := 52) dX6_payBack_52 ?_
    refine r_iadd (pc := 53) dX6_payBack_53 ?_
    refine r_iast (pc := 54) dX6_payBack_54 h1 h (fun m16 h => ?_)
    exact r_vretH dX6_payBack_55 h he
def fX6_day_L80 (a0 : Nat) (a0n : Nat) (r19 : Int32 → Int32 → gM → Option (gM)) (r46 : Int32 → Int32 → gM → Option (gM)) : Nat → Int32 → gM → Option (gM)
  | 0, _, _ => none
  | n + 1, v3, m => gRd m a0 a0n 0 fun x11 => (if x11 ≤ v3 then gRd m a0 a0n 1 fun x12 => gWr m a0 a0n 1 (x12 + 1) fun m13 => some m13 else gCv (fX6_payBack a0 a0n v3 m) fun m14 => gLt (v3 + 1) fun x17 => fX6_day_L80 a0 a0n r19 r46 n x17 m14)
def fX6_day_L46 (a0 : Nat) (a0n : Nat) (v1 : Int32) (r19 : Int32 → Int32 → gM → Option (gM)) : Nat → Int32 → Int32 → gM → Option (gM)
  | 0, _, _, _ => none
  | n + 1, v2, v3, m => gRd m a0 a0n 0 fun x8 => (if x8 ≤ v3 then gRd m a0 a0n 5 fun x9 => gWr m a0 a0n 5 (x9 + v2) fun m10 => fX6_day_L80 a0 a0n r19 (fX6_day_L46 a0 a0n v1 r19 n) gFU 0 m10 else gCl (fX6_inRound a0 a0n v3 m) fun m30 x31 => gCl (fX6_giveGood a0 a0n x31 v1 v2 m30) fun m33 x34 => gLt (v3 + 1) fun x36 => fX6_day_L46 a0 a0n v1 r19 n x34 x36 m33)
def fX6_day_L19 (a0 : Nat) (a0n : Nat) (v1 : Int32) : Nat → Int32 → Int32 → gM → Option (gM)
  | 0, _, _, _ => none
  | n + 1, v2, v3, m => gRd m a0 a0n 0 fun x7 => (if x7 ≤ v3 then fX6_day_L46 a0 a0n v1 (fX6_day_L19 a0 a0n v1 n) gFU v2 0 m else gCl (fX6_inRound a0 a0n v3 m) fun m65 x66 => gCl (fX6_giveDue a0 a0n x66 v1 v2 m65) fun m68 x69 => gLt (v3 + 1) fun x71 => fX6_day_L19 a0 a0n v1 n x69 x71 m68)
def fX6_day (a1 a1n : Nat) (m : gM) : Option (gM) := gRd m a1 a1n 1 fun x1 => gCl (fX6_baked a1 a1n x1 m) fun m2 x3 => gRd m2 a1 a1n 2 fun x5 => gWr m2 a1 a1n 2 (x5 + x3) fun m6 => fX6_day_L19 a1 a1n x1 gFU x3 0 m6
abbrev rmX6_day : Room := { frames := 5, cells := 0, slots := 0, locals := 116 }
set_option maxHeartbeats 4000000 in
set_option maxRecDepth 100000 in
theorem tX6_day (l : Launch) (G : gX) (u : gU) (hF : gFull u) (a1 a1n : Nat) (m : gM) (o : gM) (h : fX6_day a1 a1n m = some o) (h1 : gIn u a1 7 a1n) : gMet l G u yX6_day (.code yX6_day cX6_day 4 none) rmX6_day [.ref a1] m o none := by
  refine gMet_of (own := RX6) (k := 3) (by decide) rfl ⟨rfl, rfl⟩ (Nat.le_of_ble_eq_true rfl) [some (.ref a1), none, none, none] rfl (fun Y hG hu hnL hLn hRm he => ?_)
  subst hG hu hLn
  unfold fX6_day at h
  refine r_aload_n (pc := 0) dX6_day_0 rfl rfl ?_
  refine r_iconst (pc := 1) (v := 1) dX6_day_1 (by decide) ?_
  refine r_iald (pc := 2) dX6_day_2 h1 h (fun x1 h => ?_)
  refine r_istore_n (pc := 3) dX6_day_3 rfl (by rw [hnL]; decide) rfl ?_
  refine r_aload_n (pc := 4) dX6_day_4 rfl rfl ?_
  refine r_iload_n (pc := 5) dX6_day_5 rfl rfl ?_
  obtain ⟨m2, x3, q4, h⟩ := gCl_some h
  refine r_callS (pc := 6) [.ref _, .int _] (tX6_baked _ _ _ hF _ _ _ _ _ q4 h1) ⟨rfl, rfl⟩ cd_X6_baked wX6_75 nm_X6_baked rfl (by rw [hRm]; decide) rfl (Nat.le_of_ble_eq_true rfl) dX6_day_6 ?_
  refine r_istore_n (pc := 9) dX6_day_9 rfl (by rw [hnL]; decide) rfl ?_
  refine r_aload_n (pc := 10) dX6_day_10 rfl rfl ?_
  refine r_iconst (pc := 11) (v := 2) dX6_day_11 (by decide) ?_
  refine r_dup2 (pc := 12) dX6_day_12 rfl rfl ?_
  refine r_iald (pc := 13) dX6_day_13 h1 h (fun x5 h => ?_)
  refine r_iload_n (pc := 14) dX6_day_14 rfl rfl ?_
  refine r_iadd (pc := 15) dX6_day_15 ?_
  refine r_iast (pc := 16) dX6_day_16 h1 h (fun m6 h => ?_)
  refine r_iconst (pc := 17) (v := 0) dX6_day_17 (by decide) ?_
  refine r_istore_n (pc := 18) dX6_day_18 rfl (by rw [hnL]; decide) rfl ?_
  have L74 : ∀ (n72 : Nat) (v75 : Int32) (v76 : Int32) (m77 : gM), fX6_day_L19 a1 a1n x1 n72 v75 v76 m77 = some o → AW Y cX6_day RX6 19 [some (.ref a1), some (.int x1), some (.int v75), some (.int v76)] [] m77 := by
    intro n72
    induction n72 with
    | zero =>
      intro v75 v76 m77 h
      exact absurd h (by simp [fX6_day_L19])
    | succ n72 ih73 =>
      intro v75 v76 m77 h
      rw [fX6_day_L19] at h
      refine r_iload_n (pc := 19) dX6_day_19 rfl rfl ?_
      refine r_aload_n (pc := 20) dX6_day_20 rfl rfl ?_
      refine r_iconst (pc := 21) (v := 0) dX6_day_21 (by decide) ?_
      refine r_iald (pc := 22) dX6_day_22 h1 h (fun x78 h => ?_)
      refine r_icmp_ge (pc := 23) (tgt := 44) dX6_day_23 (by decide) h (fun h => ?_) (fun h => ?_)
      · refine r_iconst (pc := 44) (v := 0) dX6_day_44 (by decide) ?_
        refine r_istore_n (pc := 45) dX6_day_45 rfl (by rw [hnL]; decide) rfl ?_
        have L81 : ∀ (n79 : Nat) (v82 : Int32) (v83 : Int32) (m84 : gM), fX6_day_L46 a1 a1n x1 (fX6_day_L19 a1 a1n x1 n72) n79 v82 v83 m84 = some o → AW Y cX6_day RX6 46 [some (.ref a1), some (.int x1), some (.int v82), some (.int v83)] [] m84 := by
          intro n79
          induction n79 with
          | zero =>
            intro v82 v83 m84 h
            exact absurd h (by simp [fX6_day_L46])
          | succ n79 ih80 =>
            intro v82 v83 m84 h
            rw [fX6_day_L46] at h
            refine r_iload_n (pc := 46) dX6_day_46 rfl rfl ?_
            refine r_aload_n (pc := 47) dX6_day_47 rfl rfl ?_
            refine r_iconst (pc := 48) (v := 0) dX6_day_48 (by decide) ?_
            refine r_iald (pc := 49) dX6_day_49 h1 h (fun x85 h => ?_)
            refine r_icmp_ge (pc := 50) (tgt := 71) dX6_day_50 (by decide) h (fun h => ?_) (fun h => ?_)
            · refine r_aload_n (pc := 71) dX6_day_71 rfl rfl ?_
              refine r_iconst (pc := 72) (v := 5) dX6_day_72 (by decide) ?_
              refine r_dup2 (pc := 73) dX6_day_73 rfl rfl ?_
              refine r_iald (pc := 74) dX6_day_74 h1 h (fun x86 h => ?_)
              refine r_iload_n (pc := 75) dX6_day_75 rfl rfl ?_
              refine r_iadd (pc := 76) dX6_day_76 ?_
              refine r_iast (pc := 77) dX6_day_77 h1 h (fun m87 h => ?_)
              refine r_iconst (pc := 78) (v := 0) dX6_day_78 (by decide) ?_
              refine r_istore_n (pc := 79) dX6_day_79 rfl (by rw [hnL]; decide) rfl ?_
              have L90 : ∀ (n88 : Nat) (v91 : Int32) (m92 : gM), fX6_day_L80 a1 a1n (fX6_day_L19 a1 a1n x1 n72) (fX6_day_L46 a1 a1n x1 (fX6_day_L19 a1 a1n x1 n72) n79) n88 v91 m92 = some o → AW Y cX6_day RX6 80 [some (.ref a1), none, none, some (.int v91)] [] m92 := by
                intro n88
                induction n88 with
                | zero =>
                  intro v91 m92 h
                  exact absurd h (by simp [fX6_day_L80])
                | succ n88 ih89 =>
                  intro v91 m92 h
                  rw [fX6_day_L80] at h
                  refine r_iload_n (pc := 80) dX6_day_80 rfl rfl ?_
                  refine r_aload_n (pc := 81) dX6_day_81 rfl rfl ?_
                  refine r_iconst (pc := 82) (v := 0) dX6_day_82 (by decide) ?_
                  refine r_iald (pc := 83) dX6_day_83 h1 h (fun x93 h => ?_)
                  refine r_icmp_ge (pc := 84) (tgt := 98) dX6_day_84 (by decide) h (fun h => ?_) (fun h => ?_)
                  · refine r_aload_n (pc := 98) dX6_day_98 rfl rfl ?_
                    refine r_iconst (pc := 99) (v := 1) dX6_day_99 (by decide) ?_
                    refine r_dup2 (pc := 100) dX6_day_100 rfl rfl ?_
                    refine r_iald (pc := 101) dX6_day_101 h1 h (fun x94 h => ?_)
                    refine r_iconst (pc := 102) (v := 1) dX6_day_102 (by decide) ?_
                    refine r_iadd (pc := 103) dX6_day_103 ?_
                    refine r_iast (pc := 104) dX6_day_104 h1 h (fun m95 h => ?_)
                    exact r_vretH dX6_day_105 h he
                  · refine r_aload_n (pc := 87) dX6_day_87 rfl rfl ?_
                    refine r_iload_n (pc := 88) dX6_day_88 rfl rfl ?_
                    obtain ⟨m96, q98, h⟩ := gCv_some h
                    refine r_callS (pc := 89) [.ref _, .int _] (tX6_payBack _ _ _ hF _ _ _ _ _ q98 h1) ⟨rfl, rfl⟩ cd_X6_payBack wX6_88 nm_X6_payBack rfl (by rw [hRm]; decide) rfl (Nat.le_of_ble_eq_true rfl) dX6_day_89 ?_
                    refine r_iinc (pc := 92) (d := 1) dX6_day_92 rfl (by decide) (by rw [hnL]; decide) h (fun x99 h => ?_)
                    refine r_goto (pc := 95) (tgt := 80) dX6_day_95 (by decide) ?_
                    exact r_mask [true, false, false, true] rfl (ih89 _ _ h)
              exact r_mask [true, false, false, true] rfl (L90 _ _ _ h)
            · refine r_aload_n (pc := 53) dX6_day_53 rfl rfl ?_
              refine r_aload_n (pc := 54) dX6_day_54 rfl rfl ?_
              refine r_iload_n (pc := 55) dX6_day_55 rfl rfl ?_
              obtain ⟨m100, x101, q102, h⟩ := gCl_some h
              refine r_callS (pc := 56) [.ref _, .int _] (tX6_inRound _ _ _ hF _ _ _ _ _ q102 h1) ⟨rfl, rfl⟩ cd_X6_inRound wX6_78 nm_X6_inRound rfl (by rw [hRm]; decide) rfl (Nat.le_of_ble_eq_true rfl) dX6_day_56 ?_
              refine r_iload_n (pc := 59) dX6_day_59 rfl rfl ?_
              refine r_iload_n (pc := 60) dX6_day_60 rfl rfl ?_
              obtain ⟨m103, x104, q105, h⟩ := gCl_some h
              refine r_callS (pc := 61) [.ref _, .int _, .int _, .int _] (tX6_giveGood _ _ _ hF _ _ _ _ _ _ _ q105 h1) ⟨rfl, rfl⟩ cd_X6_giveGood wX6_85 nm_X6_giveGood rfl (by rw [hRm]; decide) rfl (Nat.le_of_ble_eq_true rfl) dX6_day_61 ?_
              refine r_istore_n (pc := 64) dX6_day_64 rfl (by rw [hnL]; decide) rfl ?_
              refine r_iinc (pc := 65) (d := 1) dX6_day_65 rfl (by decide) (by rw [hnL]; decide) h (fun x106 h => ?_)
              refine r_goto (pc := 68) (tgt := 46) dX6_day_68 (by decide) ?_
              exact r_mask [true, true, true, true] rfl (ih80 _ _ _ h)
        exact r_mask [true, true, true, true] rfl (L81 _ _ _ _ h)
      · refine r_aload_n (pc := 26) dX6_day_26 rfl rfl ?_
        refine r_aload_n (pc := 27) dX6_day_27 rfl rfl ?_
        refine r_iload_n (pc := 28) dX6_day_28 rfl rfl ?_
        obtain ⟨m107, x108, q109, h⟩ := gCl_some h
        refine r_callS (pc := 29) [.ref _, .int _] (tX6_inRound _ _ _ hF _ _ _ _ _ q109 h1) ⟨rfl, rfl⟩ cd_X6_inRound wX6_78 nm_X6_inRound rfl (by rw [hRm]; decide) rfl (Nat.le_of_ble_eq_true rfl) dX6_day_29 ?_
        refine r_iload_n (pc := 32) dX6_day_32 rfl rfl ?_
        refine r_iload_n (pc := 33) dX6_day_33 rfl rfl ?_
        obtain ⟨m110, x111, q112, h⟩ := gCl_some h
        refine r_callS (pc := 34) [.ref _, .int _, .int _, .int _] (tX6_giveDue _ _ _ hF _ _ _ _ _ _ _ q112 h1) ⟨rfl, rfl⟩ cd_X6_giveDue wX6_81 nm_X6_giveDue rfl (by rw [hRm]; decide) rfl (Nat.le_of_ble_eq_true rfl) dX6_day_34 ?_
        refine r_istore_n (pc := 37) dX6_day_37 rfl (by rw [hnL]; decide) rfl ?_
        refine r_iinc (pc := 38) (d := 1) dX6_day_38 rfl (by decide) (by rw [hnL]; decide) h (fun x113 h => ?_)
        refine r_goto (pc := 41) (tgt := 19) dX6_day_41 (by decide) ?_
        exact r_mask [true, true, true, true] rfl (ih73 _ _ _ h)
  exact r_mask [true, true, true, true] rfl (L74 _ _ _ _ h)
def fX6_daysOn_L10 (a0 : Nat) (a0n : Nat) (v1 : Int32) (v2 : Int32) : Nat → Int32 → gM → Option (gM × Int32)
  | 0, _, _ => none
  | n + 1, v3, m => (if v1 ≤ v3 then gRd m a0 a0n 3 fun x4 => gRd m a0 a0n 4 fun x5 => some (m, ((x4 + x5) - v2)) else gCv (fX6_day a0 a0n m) fun m6 => gLt (v3 + 1) fun x9 => fX6_daysOn_L10 a0 a0n v1 v2 n x9 m6)
def fX6_daysOn (a1 a1n : Nat) (p2 : Int32) (m : gM) : Option (gM × Int32) := gRd m a1 a1n 3 fun x1 => gRd m a1 a1n 4 fun x2 => gLt ((x1 + x2)) fun x3 => fX6_daysOn_L10 a1 a1n p2 x3 gFU 0 m
abbrev rmX6_daysOn : Room := { frames := 6, cells := 0, slots := 0, locals := 139 }
set_option maxHeartbeats 4000000 in
set_option maxRecDepth 100000 in
theorem tX6_daysOn (l : Launch) (G : gX) (u : gU) (hF : gFull u) (a1 a1n : Nat) (p2 : Int32) (m : gM) (o : gM × Int32) (h : fX6_daysOn a1 a1n p2 m = some o) (h1 : gIn u a1 7 a1n) : gMet l G u yX6_daysOn (.code yX6_daysOn cX6_daysOn 4 (some .int)) rmX6_daysOn [.ref a1, .int p2] m o.1 (some (.int o.2)) := by
  refine gMet_of (own := RX6) (k := 2) (by decide) rfl ⟨rfl, rfl⟩ (Nat.le_of_ble_eq_true rfl) [some (.ref a1), some (.int p2), none, none] rfl (fun Y hG hu hnL hLn hRm he => ?_)
  subst hG hu hLn
  unfold fX6_daysOn at h
  refine r_aload_n (pc := 0) dX6_daysOn_0 rfl rfl ?_
  refine r_iconst (pc := 1) (v := 3) dX6_daysOn_1 (by decide) ?_
  refine r_iald (pc := 2) dX6_daysOn_2 h1 h (fun x1 h => ?_)
  refine r_aload_n (pc := 3) dX6_daysOn_3 rfl rfl ?_
  refine r_iconst (pc := 4) (v := 4) dX6_daysOn_4 (by decide) ?_
  refine r_iald (pc := 5) dX6_daysOn_5 h1 h (fun x2 h => ?_)
  refine r_iadd (pc := 6) dX6_daysOn_6 ?_
  refine r_istore_nL (pc := 7) dX6_daysOn_7 rfl (by rw [hnL]; decide) h (fun x3 h => ?_)
  refine r_iconst (pc := 8) (v := 0) dX6_daysOn_8 (by decide) ?_
  refine r_istore_n (pc := 9) dX6_daysOn_9 rfl (by rw [hnL]; decide) rfl ?_
  have L12 : ∀ (n10 : Nat) (v13 : Int32) (m14 : gM), fX6_daysOn_L10 a1 a1n p2 x3 n10 v13 m14 = some o → AW Y cX6_daysOn RX6 10 [some (.ref a1), some (.int p2), some (.int x3), some (.int v13)] [] m14 := by
    intro n10
    induction n10 with
    | zero =>
      intro v13 m14 h
      exact absurd h (by simp [fX6_daysOn_L10])
    | succ n10 ih11 =>
      intro v13 m14 h
      rw [fX6_daysOn_L10] at h
      refine r_iload_n (pc := 10) dX6_daysOn_10 rfl rfl ?_
      refine r_iload_n (pc := 11) dX6_daysOn_11 rfl rfl ?_
      refine r_icmp_ge (pc := 12) (tgt := 25) dX6_daysOn_12 (by decide) h (fun h => ?_) (fun h => ?_)
      · refine r_aload_n (pc := 25) dX6_daysOn_25 rfl rfl ?_
        refine r_iconst (pc := 26) (v := 3) dX6_daysOn_26 (by decide) ?_
        refine r_iald (pc := 27) dX6_daysOn_27 h1 h (fun x15 h => ?_)
        refine r_aload_n (pc := 28) dX6_daysOn_28 rfl rfl ?_
        refine r_iconst (pc := 29) (v := 4) dX6_daysOn_29 (by decide) ?_
        refine r_iald (pc := 30) dX6_daysOn_30 h1 h (fun x16 h => ?_)
        refine r_iadd (pc := 31) dX6_daysOn_31 ?_
        refine r_iload_n (pc := 32) dX6_daysOn_32 rfl rfl ?_
        refine r_isub (pc := 33) dX6_daysOn_33 ?_
        exact r_iretH dX6_daysOn_34 h he
      · refine r_aload_n (pc := 15) dX6_daysOn_15 rfl rfl ?_
        obtain ⟨m17, q19, h⟩ := gCv_some h
        refine r_callS (pc := 16) [.ref _] (tX6_day _ _ _ hF _ _ _ _ q19 h1) ⟨rfl, rfl⟩ cd_X6_day wX6_92 nm_X6_day rfl (by rw [hRm]; decide) rfl (Nat.le_of_ble_eq_true rfl) dX6_daysOn_16 ?_
        refine r_iinc (pc := 19) (d := 1) dX6_daysOn_19 rfl (by decide) (by rw [hnL]; decide) h (fun x20 h => ?_)
        refine r_goto (pc := 22) (tgt := 10) dX6_daysOn_22 (by decide) ?_
        exact r_mask [true, true, true, true] rfl (ih11 _ _ h)
  exact r_mask [true, true, true, true] rfl (L12 _ _ _ h)
def fX6_reason_L51 (a0 : Nat) (a0n : Nat) (v1 : Int32) (v2 : Int32) : Nat → Int32 → Int32 → gM → Option (gM × Int32)
  | 0, _, _, _ => none
  | n + 1, v3, v4, m => gCl (fX6_inRound a0 a0n v4 m) fun m14 x15 => (if x15 = v1 then (if v3 = 0 then some (m14, 4) else gCl (fX6_dueOn a0 a0n v1 v2 m14) fun m17 x18 => (if x18 ≤ v3 then some (m17, 0) else some (m17, 5))) else gCl (fX6_inRound a0 a0n v4 m14) fun m20 x21 => gCl (fX6_isOpen a0 a0n x21 v2 m20) fun m23 x24 => (if x24 = 0 then (if v3 ≤ (0 : Int32) then gLt ((v3 - v3)) fun x26 => gLt (v4 + 1) fun x27 => fX6_reason_L51 a0 a0n v1 v2 n x26 x27 m23 else gLt ((v3 - 0)) fun x28 => gLt (v4 + 1) fun x29 => fX6_reason_L51 a0 a0n v1 v2 n x28 x29 m23) else gCl (fX6_dueOn a0 a0n x21 v2 m23) fun m30 x31 => (if v3 ≤ x31 then gLt ((v3 - v3)) fun x33 => gLt (v4 + 1) fun x34 => fX6_reason_L51 a0 a0n v1 v2 n x33 x34 m30 else gLt ((v3 - x31)) fun x35 => gLt (v4 + 1) fun x36 => fX6_reason_L51 a0 a0n v1 v2 n x35 x36 m30)))
def fX6_reason (a1 a1n : Nat) (p2 : Int32) (m : gM) : Option (gM × Int32) := gRd m a1 a1n 1 fun x1 => gCl (fX6_of a1 a1n p2 (1 + (x1 - x1 / 7 * 7)) m) fun m2 x3 => (if x3 = 0 then some (m2, 1) else gCl (fX6_isAway a1 a1n p2 x1 m2) fun m5 x6 => (if x6 = 0 then gCl (fX6_isOpen a1 a1n p2 x1 m5) fun m8 x9 => (if x9 = 0 then some (m8, 3) else gCl (fX6_baked a1 a1n x1 m8) fun m11 x12 => fX6_reason_L51 a1 a1n p2 x1 gFU x12 0 m11) else some (m5, 2)))
abbrev rmX6_reason : Room := { frames := 5, cells := 0, slots := 0, locals := 116 }
set_option maxHeartbeats 4000000 in
set_option maxRecDepth 100000 in
theorem tX6_reason (l : Launch) (G : gX) (u : gU) (hF : gFull u) (a1 a1n : Nat) (p2 : Int32) (m : gM) (o : gM × Int32) (h : fX6_reason a1 a1n p2 m = some o) (h1 : gIn u a1 7 a1n) : gMet l G u yX6_reason (.code yX6_reason cX6_reason 7 (some .int)) rmX6_reason [.ref a1, .int p2] m o.1 (some (.int o.2)) := by
  refine gMet_of (own := RX6) (k := 5) (by decide) rfl ⟨rfl, rfl⟩ (Nat.le_of_ble_eq_true rfl) [some (.ref a1), some (.int p2), none, none, none, none, none] rfl (fun Y hG hu hnL hLn hRm he => ?_)
  subst hG hu hLn
  unfold fX6_reason at h
  refine r_aload_n (pc := 0) dX6_reason_0 rfl rfl ?_
  refine r_iconst (pc := 1) (v := 1) dX6_reason_1 (by decide) ?_
  refine r_iald (pc := 2) dX6_reason_2 h1 h (fun x1 h => ?_)
  refine r_istore_n (pc := 3) dX6_reason_3 rfl (by rw [hnL]; decide) rfl ?_
  refine r_aload_n (pc := 4) dX6_reason_4 rfl rfl ?_
  refine r_iload_n (pc := 5) dX6_reason_5 rfl rfl ?_
  refine r_iconst (pc := 6) (v := 1) dX6_reason_6 (by decide) ?_
  refine r_iload_n (pc := 7) dX6_reason_7 rfl rfl ?_
  refine r_bipush (pc := 8) (v := 7) dX6_reason_8 (by decide) ?_
  refine r_iremc (pc := 10) dX6_reason_10 (by decide) ?_
  refine r_iadd (pc := 11) dX6_reason_11 ?_
  obtain ⟨m2, x3, q4, h⟩ := gCl_some h
  refine r_callS (pc := 12) [.ref _, .int _, .int _] (tX6_of _ _ _ hF _ _ _ _ _ _ q4 h1) ⟨rfl, rfl⟩ cd_X6_of wX6_53 nm_X6_of rfl (by rw [hRm]; decide) rfl (Nat.le_of_ble_eq_true rfl) dX6_reason_12 ?_
  refine r_if_ne (pc := 15) (tgt := 20) dX6_reason_15 (by decide) h (fun h => ?_) (fun h => ?_)
  · refine r_aload_n (pc := 20) dX6_reason_20 rfl rfl ?_
    refine r_iload_n (pc := 21) dX6_reason_21 rfl rfl ?_
    refine r_iload_n (pc := 22) dX6_reason_22 rfl rfl ?_
    obtain ⟨m5, x6, q7, h⟩ := gCl_some h
    refine r_callS (pc := 23) [.ref _, .int _, .int _] (tX6_isAway _ _ _ hF _ _ _ _ _ _ q7 h1) ⟨rfl, rfl⟩ cd_X6_isAway wX6_57 nm_X6_isAway rfl (by rw [hRm]; decide) rfl (Nat.le_of_ble_eq_true rfl) dX6_reason_23 ?_
    refine r_if_eq (pc := 26) (tgt := 31) dX6_reason_26 (by decide) h (fun h => ?_) (fun h => ?_)
    · refine r_aload_n (pc := 31) dX6_reason_31 rfl rfl ?_
      refine r_iload_n (pc := 32) dX6_reason_32 rfl rfl ?_
      refine r_iload_n (pc := 33) dX6_reason_33 rfl rfl ?_
      obtain ⟨m8, x9, q10, h⟩ := gCl_some h
      refine r_callS (pc := 34) [.ref _, .int _, .int _] (tX6_isOpen _ _ _ hF _ _ _ _ _ _ q10 h1) ⟨rfl, rfl⟩ cd_X6_isOpen wX6_68 nm_X6_isOpen rfl (by rw [hRm]; decide) rfl (Nat.le_of_ble_eq_true rfl) dX6_reason_34 ?_
      refine r_if_ne (pc := 37) (tgt := 42) dX6_reason_37 (by decide) h (fun h => ?_) (fun h => ?_)
      · refine r_aload_n (pc := 42) dX6_reason_42 rfl rfl ?_
        refine r_iload_n (pc := 43) dX6_reason_43 rfl rfl ?_
        obtain ⟨m11, x12, q13, h⟩ := gCl_some h
        refine r_callS (pc := 44) [.ref _, .int _] (tX6_baked _ _ _ hF _ _ _ _ _ q13 h1) ⟨rfl, rfl⟩ cd_X6_baked wX6_75 nm_X6_baked rfl (by rw [hRm]; decide) rfl (Nat.le_of_ble_eq_true rfl) dX6_reason_44 ?_
        refine r_istore_n (pc := 47) dX6_reason_47 rfl (by rw [hnL]; decide) rfl ?_
        refine r_iconst (pc := 48) (v := 0) dX6_reason_48 (by decide) ?_
        refine r_istore (pc := 49) dX6_reason_49 (by rw [hnL]; decide) rfl ?_
        have L39 : ∀ (n37 : Nat) (v40 : Int32) (v41 : Int32) (m42 : gM), fX6_reason_L51 a1 a1n p2 x1 n37 v40 v41 m42 = some o → AW Y cX6_reason RX6 51 [some (.ref a1), some (.int p2), some (.int x1), some (.int v40), some (.int v41), none, none] [] m42 := by
          intro n37
          induction n37 with
          | zero =>
            intro v40 v41 m42 h
            exact absurd h (by simp [fX6_reason_L51])
          | succ n37 ih38 =>
            intro v40 v41 m42 h
            rw [fX6_reason_L51] at h
            refine r_aload_n (pc := 51) dX6_reason_51 rfl rfl ?_
            refine r_iload (pc := 52) dX6_reason_52 rfl ?_
            obtain ⟨m43, x44, q45, h⟩ := gCl_some h
            refine r_callS (pc := 54) [.ref _, .int _] (tX6_inRound _ _ _ hF _ _ _ _ _ q45 h1) ⟨rfl, rfl⟩ cd_X6_inRound wX6_78 nm_X6_inRound rfl (by rw [hRm]; decide) rfl (Nat.le_of_ble_eq_true rfl) dX6_reason_54 ?_
            refine r_iload_n (pc := 57) dX6_reason_57 rfl rfl ?_
            refine r_icmp_eq (pc := 58) (tgt := 113) dX6_reason_58 (by decide) h (fun h => ?_) (fun h => ?_)
            · refine r_iload_n (pc := 113) dX6_reason_113 rfl rfl ?_
              refine r_if_ne (pc := 114) (tgt := 121) dX6_reason_114 (by decide) h (fun h => ?_) (fun h => ?_)
              · refine r_iload_n (pc := 121) dX6_reason_121 rfl rfl ?_
                refine r_aload_n (pc := 122) dX6_reason_122 rfl rfl ?_
                refine r_iload_n (pc := 123) dX6_reason_123 rfl rfl ?_
                refine r_iload_n (pc := 124) dX6_reason_124 rfl rfl ?_
                obtain ⟨m46, x47, q48, h⟩ := gCl_some h
                refine r_callS (pc := 125) [.ref _, .int _, .int _] (tX6_dueOn _ _ _ hF _ _ _ _ _ _ q48 h1) ⟨rfl, rfl⟩ cd_X6_dueOn wX6_61 nm_X6_dueOn rfl (by rw [hRm]; decide) rfl (Nat.le_of_ble_eq_true rfl) dX6_reason_125 ?_
                refine r_icmp_ge (pc := 128) (tgt := 135) dX6_reason_128 (by decide) h (fun h => ?_) (fun h => ?_)
                · refine r_iconst (pc := 135) (v := 0) dX6_reason_135 (by decide) ?_
                  exact r_iretH dX6_reason_136 h he
                · refine r_iconst (pc := 131) (v := 5) dX6_reason_131 (by decide) ?_
                  refine r_goto (pc := 132) (tgt := 136) dX6_reason_132 (by decide) ?_
                  exact r_iretH dX6_reason_136 h he
              · refine r_iconst (pc := 117) (v := 4) dX6_reason_117 (by decide) ?_
                refine r_goto (pc := 118) (tgt := 136) dX6_reason_118 (by decide) ?_
                exact r_iretH dX6_reason_136 h he
            · refine r_aload_n (pc := 61) dX6_reason_61 rfl rfl ?_
              refine r_iload (pc := 62) dX6_reason_62 rfl ?_
              obtain ⟨m49, x50, q51, h⟩ := gCl_some h
              refine r_callS (pc := 64) [.ref _, .int _] (tX6_inRound _ _ _ hF _ _ _ _ _ q51 h1) ⟨rfl, rfl⟩ cd_X6_inRound wX6_78 nm_X6_inRound rfl (by rw [hRm]; decide) rfl (Nat.le_of_ble_eq_true rfl) dX6_reason_64 ?_
              refine r_istore (pc := 67) dX6_reason_67 (by rw [hnL]; decide) rfl ?_
              refine r_aload_n (pc := 69) dX6_reason_69 rfl rfl ?_
              refine r_iload (pc := 70) dX6_reason_70 rfl ?_
              refine r_iload_n (pc := 72) dX6_reason_72 rfl rfl ?_
              obtain ⟨m52, x53, q54, h⟩ := gCl_some h
              refine r_callS (pc := 73) [.ref _, .int _, .int _] (tX6_isOpen _ _ _ hF _ _ _ _ _ _ q54 h1) ⟨rfl, rfl⟩ cd_X6_isOpen wX6_68 nm_X6_isOpen rfl (by rw [hRm]; decide) rfl (Nat.le_of_ble_eq_true rfl) dX6_reason_73 ?_
              refine r_if_eq (pc := 76) (tgt := 89) dX6_reason_76 (by decide) h (fun h => ?_) (fun h => ?_)
              · refine r_iconst (pc := 89) (v := 0) dX6_reason_89 (by decide) ?_
                refine r_istore (pc := 90) dX6_reason_90 (by rw [hnL]; decide) rfl ?_
                refine r_iload_n (pc := 92) dX6_reason_92 rfl rfl ?_
                refine r_iload (pc := 93) dX6_reason_93 rfl ?_
                refine r_iload_n (pc := 95) dX6_reason_95 rfl rfl ?_
                refine r_icmp_ge (pc := 96) (tgt := 104) dX6_reason_96 (by decide) h (fun h => ?_) (fun h => ?_)
                · refine r_iload_n (pc := 104) dX6_reason_104 rfl rfl ?_
                  refine r_isub (pc := 105) dX6_reason_105 ?_
                  refine r_istore_nL (pc := 106) dX6_reason_106 rfl (by rw [hnL]; decide) h (fun x55 h => ?_)
                  refine r_iinc (pc := 107) (d := 1) dX6_reason_107 rfl (by decide) (by rw [hnL]; decide) h (fun x56 h => ?_)
                  refine r_goto (pc := 110) (tgt := 51) dX6_reason_110 (by decide) ?_
                  exact r_mask [true, true, true, true, true, false, false] rfl (ih38 _ _ _ h)
                · refine r_iload (pc := 99) dX6_reason_99 rfl ?_
                  refine r_goto (pc := 101) (tgt := 105) dX6_reason_101 (by decide) ?_
                  refine r_isub (pc := 105) dX6_reason_105 ?_
                  refine r_istore_nL (pc := 106) dX6_reason_106 rfl (by rw [hnL]; decide) h (fun x57 h => ?_)
                  refine r_iinc (pc := 107) (d := 1) dX6_reason_107 rfl (by decide) (by rw [hnL]; decide) h (fun x58 h => ?_)
                  refine r_goto (pc := 110) (tgt := 51) dX6_reason_110 (by decide) ?_
                  exact r_mask [true, true, true, true, true, false, false] rfl (ih38 _ _ _ h)
              · refine r_aload_n (pc := 79) dX6_reason_79 rfl rfl ?_
                refine r_iload (pc := 80) dX6_reason_80 rfl ?_
                refine r_iload_n (pc := 82) dX6_reason_82 rfl rfl ?_
                obtain ⟨m59, x60, q61, h⟩ := gCl_some h
                refine r_callS (pc := 83) [.ref _, .int _, .int _] (tX6_dueOn _ _ _ hF _ _ _ _ _ _ q61 h1) ⟨rfl, rfl⟩ cd_X6_dueOn wX6_61 nm_X6_dueOn rfl (by rw [hRm]; decide) rfl (Nat.le_of_ble_eq_true rfl) dX6_reason_83 ?_
                refine r_goto (pc := 86) (tgt := 90) dX6_reason_86 (by decide) ?_
                refine r_istore (pc := 90) dX6_reason_90 (by rw [hnL]; decide) rfl ?_
                refine r_iload_n (pc := 92) dX6_reason_92 rfl rfl ?_
                refine r_iload (pc := 93) dX6_reason_93 rfl ?_
                refine r_iload_n (pc := 95) dX6_reason_95 rfl rfl ?_
                refine r_icmp_ge (pc := 96) (tgt := 104) dX6_reason_96 (by decide) h (fun h => ?_) (fun h => ?_)
                · refine r_iload_n (pc := 104) dX6_reason_104 rfl rfl ?_
                  refine r_isub (pc := 105) dX6_reason_105 ?_
                  refine r_istore_nL (pc := 106) dX6_reason_106 rfl (by rw [hnL]; decide) h (fun x62 h => ?_)
                  refine r_iinc (pc := 107) (d := 1) dX6_reason_107 rfl (by decide) (by rw [hnL]; decide) h (fun x63 h => ?_)
                  refine r_goto (pc := 110) (tgt := 51) dX6_reason_110 (by decide) ?_
                  exact r_mask [true, true, true, true, true, false, false] rfl (ih38 _ _ _ h)
                · refine r_iload (pc := 99) dX6_reason_99 rfl ?_
                  refine r_goto (pc := 101) (tgt := 105) dX6_reason_101 (by decide) ?_
                  refine r_isub (pc := 105) dX6_reason_105 ?_
                  refine r_istore_nL (pc := 106) dX6_reason_106 rfl (by rw [hnL]; decide) h (fun x64 h => ?_)
                  refine r_iinc (pc := 107) (d := 1) dX6_reason_107 rfl (by decide) (by rw [hnL]; decide) h (fun x65 h => ?_)
                  refine r_goto (pc := 110) (tgt := 51) dX6_reason_110 (by decide) ?_
                  exact r_mask [true, true, true, true, true, false, false] rfl (ih38 _ _ _ h)
        exact r_mask [true, true, true, true, true, false, false] rfl (L39 _ _ _ _ h)
      · refine r_iconst (pc := 40) (v := 3) dX6_reason_40 (by decide) ?_
        exact r_iretH dX6_reason_41 h he
    · refine r_iconst (pc := 29) (v := 2) dX6_reason_29 (by decide) ?_
      exact r_iretH dX6_reason_30 h he
  · refine r_iconst (pc := 18) (v := 1) dX6_reason_18 (by decide) ?_
    exact r_iretH dX6_reason_19 h he
def fX6_customerOn_L47 (a0 : Nat) (a0n : Nat) (v3 : Int32) (r7 : Int32 → gM → Option (gM × Int32)) : Nat → Int32 → Int32 → gM → Option (gM × Int32)
  | 0, _, _, _ => none
  | n + 1, v4, v5, m => (if v5 < 0 then gRd m a0 a0n 0 fun x5 => gWr m a0 a0n 0 (x5 + 1) fun m6 => some (m6, v3) else gCv (fX6_add a0 a0n v3 (1 + v5) (v4 - v4 / 10 * 10) m) fun m7 => gLt ((v4 / 10)) fun x10 => gLt (v5 + (-1)) fun x11 => fX6_customerOn_L47 a0 a0n v3 r7 n x10 x11 m7)
def fX6_customerOn_L7 (a0 : Nat) (a0n : Nat) (v1 : Int32) (v2 : Int32) (v3 : Int32) : Nat → Int32 → gM → Option (gM × Int32)
  | 0, _, _ => none
  | n + 1, v4, m => (if 21 ≤ v4 then gCv (fX6_add a0 a0n v3 0 v1 m) fun m2 => fX6_customerOn_L47 a0 a0n v3 (fX6_customerOn_L7 a0 a0n v1 v2 v3 n) gFU v2 6 m2 else gWr m a0 a0n ((48 + (21 * v3)) + v4) 0 fun m25 => gLt (v4 + 1) fun x26 => fX6_customerOn_L7 a0 a0n v1 v2 v3 n x26 m25)
def fX6_customerOn (a1 a1n : Nat) (p2 : Int32) (p3 : Int32) (m : gM) : Option (gM × Int32) := gRd m a1 a1n 0 fun x1 => fX6_customerOn_L7 a1 a1n p2 p3 x1 gFU 0 m
abbrev rmX6_customerOn : Room := { frames := 1, cells := 0, slots := 0, locals := 23 }
set_option maxHeartbeats 4000000 in
set_option maxRecDepth 100000 in
theorem tX6_customerOn (l : Launch) (G : gX) (u : gU) (hF : gFull u) (a1 a1n : Nat) (p2 : Int32) (p3 : Int32) (m : gM) (o : gM × Int32) (h : fX6_customerOn a1 a1n p2 p3 m = some o) (h1 : gIn u a1 7 a1n) : gMet l G u yX6_customerOn (.code yX6_customerOn cX6_customerOn 6 (some .int)) rmX6_customerOn [.ref a1, .int p2, .int p3] m o.1 (some (.int o.2)) := by
  refine gMet_of (own := RX6) (k := 3) (by decide) rfl ⟨rfl, rfl⟩ (Nat.le_of_ble_eq_true rfl) [some (.ref a1), some (.int p2), some (.int p3), none, none, none] rfl (fun Y hG hu hnL hLn hRm he => ?_)
  subst hG hu hLn
  unfold fX6_customerOn at h
  refine r_aload_n (pc := 0) dX6_customerOn_0 rfl rfl ?_
  refine r_iconst (pc := 1) (v := 0) dX6_customerOn_1 (by decide) ?_
  refine r_iald (pc := 2) dX6_customerOn_2 h1 h (fun x1 h => ?_)
  refine r_istore_n (pc := 3) dX6_customerOn_3 rfl (by rw [hnL]; decide) rfl ?_
  refine r_iconst (pc := 4) (v := 0) dX6_customerOn_4 (by decide) ?_
  refine r_istore (pc := 5) dX6_customerOn_5 (by rw [hnL]; decide) rfl ?_
  have L29 : ∀ (n27 : Nat) (v30 : Int32) (m31 : gM), fX6_customerOn_L7 a1 a1n p2 p3 x1 n27 v30 m31 = some o → AW Y cX6_customerOn RX6 7 [some (.ref a1), some (.int p2), some (.int p3), some (.int x1), some (.int v30), none] [] m31 := by
    intro n27
    induction n27 with
    | zero =>
      intro v30 m31 h
      exact absurd h (by simp [fX6_customerOn_L7])
    | succ n27 ih28 =>
      intro v30 m31 h
      rw [fX6_customerOn_L7] at h
      refine r_iload (pc := 7) dX6_customerOn_7 rfl ?_
      refine r_bipush (pc := 9) (v := 21) dX6_customerOn_9 (by decide) ?_
      refine r_icmp_ge (pc := 11) (tgt := 33) dX6_customerOn_11 (by decide) h (fun h => ?_) (fun h => ?_)
      · refine r_aload_n (pc := 33) dX6_customerOn_33 rfl rfl ?_
        refine r_iload_n (pc := 34) dX6_customerOn_34 rfl rfl ?_
        refine r_iconst (pc := 35) (v := 0) dX6_customerOn_35 (by decide) ?_
        refine r_iload_n (pc := 36) dX6_customerOn_36 rfl rfl ?_
        obtain ⟨m32, q34, h⟩ := gCv_some h
        refine r_callS (pc := 37) [.ref _, .int _, .int _, .int _] (tX6_add _ _ _ hF _ _ _ _ _ _ _ q34 h1) ⟨rfl, rfl⟩ cd_X6_add wX6_71 nm_X6_add rfl (by rw [hRm]; decide) rfl (Nat.le_of_ble_eq_true rfl) dX6_customerOn_37 ?_
        refine r_iload_n (pc := 40) dX6_customerOn_40 rfl rfl ?_
        refine r_istore (pc := 41) dX6_customerOn_41 (by rw [hnL]; decide) rfl ?_
        refine r_bipush (pc := 43) (v := 6) dX6_customerOn_43 (by decide) ?_
        refine r_istore (pc := 45) dX6_customerOn_45 (by rw [hnL]; decide) rfl ?_
        have L37 : ∀ (n35 : Nat) (v38 : Int32) (v39 : Int32) (m40 : gM), fX6_customerOn_L47 a1 a1n x1 (fX6_customerOn_L7 a1 a1n p2 p3 x1 n27) n35 v38 v39 m40 = some o → AW Y cX6_customerOn RX6 47 [some (.ref a1), none, none, some (.int x1), some (.int v38), some (.int v39)] [] m40 := by
          intro n35
          induction n35 with
          | zero =>
            intro v38 v39 m40 h
            exact absurd h (by simp [fX6_customerOn_L47])
          | succ n35 ih36 =>
            intro v38 v39 m40 h
            rw [fX6_customerOn_L47] at h
            refine r_iload (pc := 47) dX6_customerOn_47 rfl ?_
            refine r_if_lt (pc := 49) (tgt := 79) dX6_customerOn_49 (by decide) h (fun h => ?_) (fun h => ?_)
            · refine r_aload_n (pc := 79) dX6_customerOn_79 rfl rfl ?_
              refine r_iconst (pc := 80) (v := 0) dX6_customerOn_80 (by decide) ?_
              refine r_dup2 (pc := 81) dX6_customerOn_81 rfl rfl ?_
              refine r_iald (pc := 82) dX6_customerOn_82 h1 h (fun x41 h => ?_)
              refine r_iconst (pc := 83) (v := 1) dX6_customerOn_83 (by decide) ?_
              refine r_iadd (pc := 84) dX6_customerOn_84 ?_
              refine r_iast (pc := 85) dX6_customerOn_85 h1 h (fun m42 h => ?_)
              refine r_iload_n (pc := 86) dX6_customerOn_86 rfl rfl ?_
              exact r_iretH dX6_customerOn_87 h he
            · refine r_aload_n (pc := 52) dX6_customerOn_52 rfl rfl ?_
              refine r_iload_n (pc := 53) dX6_customerOn_53 rfl rfl ?_
              refine r_iconst (pc := 54) (v := 1) dX6_customerOn_54 (by decide) ?_
              refine r_iload (pc := 55) dX6_customerOn_55 rfl ?_
              refine r_iadd (pc := 57) dX6_customerOn_57 ?_
              refine r_iload (pc := 58) dX6_customerOn_58 rfl ?_
              refine r_bipush (pc := 60) (v := 10) dX6_customerOn_60 (by decide) ?_
              refine r_iremc (pc := 62) dX6_customerOn_62 (by decide) ?_
              obtain ⟨m43, q45, h⟩ := gCv_some h
              refine r_callS (pc := 63) [.ref _, .int _, .int _, .int _] (tX6_add _ _ _ hF _ _ _ _ _ _ _ q45 h1) ⟨rfl, rfl⟩ cd_X6_add wX6_71 nm_X6_add rfl (by rw [hRm]; decide) rfl (Nat.le_of_ble_eq_true rfl) dX6_customerOn_63 ?_
              refine r_iload (pc := 66) dX6_customerOn_66 rfl ?_
              refine r_bipush (pc := 68) (v := 10) dX6_customerOn_68 (by decide) ?_
              refine r_idivc (pc := 70) dX6_customerOn_70 (by decide) ?_
              refine r_istoreL (pc := 71) dX6_customerOn_71 (by rw [hnL]; decide) h (fun x46 h => ?_)
              refine r_iinc (pc := 73) (d := (-1)) dX6_customerOn_73 rfl (by decide) (by rw [hnL]; decide) h (fun x47 h => ?_)
              refine r_goto (pc := 76) (tgt := 47) dX6_customerOn_76 (by decide) ?_
              exact r_mask [true, false, false, true, true, true] rfl (ih36 _ _ _ h)
        exact r_mask [true, false, false, true, true, true] rfl (L37 _ _ _ _ h)
      · refine r_aload_n (pc := 14) dX6_customerOn_14 rfl rfl ?_
        refine r_bipush (pc := 15) (v := 48) dX6_customerOn_15 (by decide) ?_
        refine r_bipush (pc := 17) (v := 21) dX6_customerOn_17 (by decide) ?_
        refine r_iload_n (pc := 19) dX6_customerOn_19 rfl rfl ?_
        refine r_imul (pc := 20) dX6_customerOn_20 ?_
        refine r_iadd (pc := 21) dX6_customerOn_21 ?_
        refine r_iload (pc := 22) dX6_customerOn_22 rfl ?_
        refine r_iadd (pc := 24) dX6_customerOn_24 ?_
        refine r_iconst (pc := 25) (v := 0) dX6_customerOn_25 (by decide) ?_
        refine r_iast (pc := 26) dX6_customerOn_26 h1 h (fun m48 h => ?_)
        refine r_iinc (pc := 27) (d := 1) dX6_customerOn_27 rfl (by decide) (by rw [hnL]; decide) h (fun x49 h => ?_)
        refine r_goto (pc := 30) (tgt := 7) dX6_customerOn_30 (by decide) ?_
        exact r_mask [true, true, true, true, true, false] rfl (ih28 _ _ h)
  exact r_mask [true, true, true, true, true, false] rfl (L29 _ _ _ h)
def fX6_put (a1 a1n : Nat) (p2 : Int32) (p3 : Int32) (m : gM) : Option (gM × Int32) := gRd m a1 a1n p2 fun x1 => gWr m a1 a1n p2 p3 fun m2 => some (m2, x1)
abbrev rmX6_put : Room := { frames := 0, cells := 0, slots := 0, locals := 0 }
set_option maxHeartbeats 4000000 in
set_option maxRecDepth 100000 in
theorem tX6_put (l : Launch) (G : gX) (u : gU) (hF : gFull u) (a1 a1n : Nat) (p2 : Int32) (p3 : Int32) (m : gM) (o : gM × Int32) (h : fX6_put a1 a1n p2 p3 m = some o) (h1 : gIn u a1 7 a1n) : gMet l G u yX6_put (.code yX6_put cX6_put 4 (some .int)) rmX6_put [.ref a1, .int p2, .int p3] m o.1 (some (.int o.2)) := by
  refine gMet_of (own := RX6) (k := 1) (by decide) rfl ⟨rfl, rfl⟩ (Nat.le_of_ble_eq_true rfl) [some (.ref a1), some (.int p2), some (.int p3), none] rfl (fun Y hG hu hnL hLn hRm he => ?_)
  subst hG hu hLn
  unfold fX6_put at h
  refine r_aload_n (pc := 0) dX6_put_0 rfl rfl ?_
  refine r_iload_n (pc := 1) dX6_put_1 rfl rfl ?_
  refine r_iald (pc := 2) dX6_put_2 h1 h (fun x1 h => ?_)
  refine r_istore_n (pc := 3) dX6_put_3 rfl (by rw [hnL]; decide) rfl ?_
  refine r_aload_n (pc := 4) dX6_put_4 rfl rfl ?_
  refine r_iload_n (pc := 5) dX6_put_5 rfl rfl ?_
  refine r_iload_n (pc := 6) dX6_put_6 rfl rfl ?_
  refine r_iast (pc := 7) dX6_put_7 h1 h (fun m2 h => ?_)
  refine r_iload_n (pc := 8) dX6_put_8 rfl rfl ?_
  exact r_iretH dX6_put_9 h he
def fX6_changeOn (a1 a1n : Nat) (p2 : Int32) (p3 : Int32) (p4 : Int32) (m : gM) : Option (gM × Int32) := gCl (fX6_put a1 a1n (((48 + (21 * p2)) + 1) + p3) p4 m) fun m1 x2 => some (m1, x2)
abbrev rmX6_changeOn : Room := { frames := 1, cells := 0, slots := 0, locals := 23 }
set_option maxHeartbeats 4000000 in
set_option maxRecDepth 100000 in
theorem tX6_changeOn (l : Launch) (G : gX) (u : gU) (hF : gFull u) (a1 a1n : Nat) (p2 : Int32) (p3 : Int32) (p4 : Int32) (m : gM) (o : gM × Int32) (h : fX6_changeOn a1 a1n p2 p3 p4 m = some o) (h1 : gIn u a1 7 a1n) : gMet l G u yX6_changeOn (.code yX6_changeOn cX6_changeOn 4 (some .int)) rmX6_changeOn [.ref a1, .int p2, .int p3, .int p4] m o.1 (some (.int o.2)) := by
  refine gMet_of (own := RX6) (k := 0) (by decide) rfl ⟨rfl, rfl⟩ (Nat.le_of_ble_eq_true rfl) [some (.ref a1), some (.int p2), some (.int p3), some (.int p4)] rfl (fun Y hG hu hnL hLn hRm he => ?_)
  subst hG hu hLn
  unfold fX6_changeOn at h
  refine r_aload_n (pc := 0) dX6_changeOn_0 rfl rfl ?_
  refine r_bipush (pc := 1) (v := 48) dX6_changeOn_1 (by decide) ?_
  refine r_bipush (pc := 3) (v := 21) dX6_changeOn_3 (by decide) ?_
  refine r_iload_n (pc := 5) dX6_changeOn_5 rfl rfl ?_
  refine r_imul (pc := 6) dX6_changeOn_6 ?_
  refine r_iadd (pc := 7) dX6_changeOn_7 ?_
  refine r_iconst (pc := 8) (v := 1) dX6_changeOn_8 (by decide) ?_
  refine r_iadd (pc := 9) dX6_changeOn_9 ?_
  refine r_iload_n (pc := 10) dX6_changeOn_10 rfl rfl ?_
  refine r_iadd (pc := 11) dX6_changeOn_11 ?_
  refine r_iload_n (pc := 12) dX6_changeOn_12 rfl rfl ?_
  obtain ⟨m1, x2, q3, h⟩ := gCl_some h
  refine r_callS (pc := 13) [.ref _, .int _, .int _] (tX6_put _ _ _ hF _ _ _ _ _ _ q3 h1) ⟨rfl, rfl⟩ cd_X6_put wX6_95 nm_X6_put rfl (by rw [hRm]; decide) rfl (Nat.le_of_ble_eq_true rfl) dX6_changeOn_13 ?_
  exact r_iretH dX6_changeOn_16 h he
def fX6_isSpan (p1 : Int32) (p2 : Int32) (m : gM) : Option (gM × Int32) := gCl (fX6_in (p1.toInt64) 0 999 m) fun m1 x2 => (if x2 = 0 then gRz .boolean 0 (some (m1, 0)) else gCl (fX6_in (p2.toInt64) (p1.toInt64) 999 m1) fun m4 x5 => (if x5 = 0 then gRz .boolean 0 (some (m4, 0)) else gRz .boolean 1 (some (m4, 1))))
abbrev rmX6_isSpan : Room := { frames := 1, cells := 0, slots := 0, locals := 25 }
set_option maxHeartbeats 4000000 in
set_option maxRecDepth 100000 in
theorem tX6_isSpan (l : Launch) (G : gX) (u : gU) (hF : gFull u) (p1 : Int32) (p2 : Int32) (m : gM) (o : gM × Int32) (h : fX6_isSpan p1 p2 m = some o)  : gMet l G u yX6_isSpan (.code yX6_isSpan cX6_isSpan 2 (some .boolean)) rmX6_isSpan [.int p1, .int p2] m o.1 (some (.int o.2)) := by
  refine gMet_of (own := RX6) (k := 0) (by decide) rfl ⟨rfl, rfl⟩ (Nat.le_of_ble_eq_true rfl) [some (.int p1), some (.int p2)] rfl (fun Y hG hu hnL hLn hRm he => ?_)
  subst hG hu hLn
  unfold fX6_isSpan at h
  refine r_iload_n (pc := 0) dX6_isSpan_0 rfl rfl ?_
  refine r_i2l (pc := 1) dX6_isSpan_1 ?_
  refine r_lconst (pc := 2) (v := 0) dX6_isSpan_2 (by decide) ?_
  refine r_ldc2 (pc := 3) (v := 999) dX6_isSpan_3 cX6_98 ?_
  obtain ⟨m1, x2, q3, h⟩ := gCl_some h
  refine r_callS (pc := 6) [.long _, .long _, .long _] (tX6_in _ _ _ hF _ _ _ _ _ q3) ⟨rfl, rfl⟩ cd_X6_in wX6_37 nm_X6_in rfl (by rw [hRm]; decide) rfl (Nat.le_of_ble_eq_true rfl) dX6_isSpan_6 ?_
  refine r_if_eq (pc := 9) (tgt := 29) dX6_isSpan_9 (by decide) h (fun h => ?_) (fun h => ?_)
  · refine r_iconst (pc := 29) (v := 0) dX6_isSpan_29 (by decide) ?_
    exact r_zretH dX6_isSpan_30 rfl h he
  · refine r_iload_n (pc := 12) dX6_isSpan_12 rfl rfl ?_
    refine r_i2l (pc := 13) dX6_isSpan_13 ?_
    refine r_iload_n (pc := 14) dX6_isSpan_14 rfl rfl ?_
    refine r_i2l (pc := 15) dX6_isSpan_15 ?_
    refine r_ldc2 (pc := 16) (v := 999) dX6_isSpan_16 cX6_98 ?_
    obtain ⟨m4, x5, q6, h⟩ := gCl_some h
    refine r_callS (pc := 19) [.long _, .long _, .long _] (tX6_in _ _ _ hF _ _ _ _ _ q6) ⟨rfl, rfl⟩ cd_X6_in wX6_37 nm_X6_in rfl (by rw [hRm]; decide) rfl (Nat.le_of_ble_eq_true rfl) dX6_isSpan_19 ?_
    refine r_if_eq (pc := 22) (tgt := 29) dX6_isSpan_22 (by decide) h (fun h => ?_) (fun h => ?_)
    · refine r_iconst (pc := 29) (v := 0) dX6_isSpan_29 (by decide) ?_
      exact r_zretH dX6_isSpan_30 rfl h he
    · refine r_iconst (pc := 25) (v := 1) dX6_isSpan_25 (by decide) ?_
      refine r_goto (pc := 26) (tgt := 30) dX6_isSpan_26 (by decide) ?_
      exact r_zretH dX6_isSpan_30 rfl h he
def fX6_holidayOn (a1 a1n : Nat) (p2 : Int32) (p3 : Int32) (p4 : Int32) (m : gM) : Option (gM × Int32) := gCl (fX6_of a1 a1n p2 14 m) fun m1 x2 => gLt ((((48 + (21 * p2)) + 15) + (2 * x2))) fun x4 => gWr m1 a1 a1n x4 p3 fun m5 => gWr m5 a1 a1n (x4 + 1) p4 fun m6 => gCv (fX6_add a1 a1n p2 14 1 m6) fun m7 => gCl (fX6_of a1 a1n p2 14 m7) fun m10 x11 => some (m10, x11)
abbrev rmX6_holidayOn : Room := { frames := 1, cells := 0, slots := 0, locals := 23 }
set_option maxHeartbeats 4000000 in
set_option maxRecDepth 100000 in
theorem tX6_holidayOn (l : Launch) (G : gX) (u : gU) (hF : gFull u) (a1 a1n : Nat) (p2 : Int32) (p3 : Int32) (p4 : Int32) (m : gM) (o : gM × Int32) (h : fX6_holidayOn a1 a1n p2 p3 p4 m = some o) (h1 : gIn u a1 7 a1n) : gMet l G u yX6_holidayOn (.code yX6_holidayOn cX6_holidayOn 5 (some .int)) rmX6_holidayOn [.ref a1, .int p2, .int p3, .int p4] m o.1 (some (.int o.2)) := by
  refine gMet_of (own := RX6) (k := 1) (by decide) rfl ⟨rfl, rfl⟩ (Nat.le_of_ble_eq_true rfl) [some (.ref a1), some (.int p2), some (.int p3), some (.int p4), none] rfl (fun Y hG hu hnL hLn hRm he => ?_)
  subst hG hu hLn
  unfold fX6_holidayOn at h
  refine r_bipush (pc := 0) (v := 48) dX6_holidayOn_0 (by decide) ?_
  refine r_bipush (pc := 2) (v := 21) dX6_holidayOn_2 (by decide) ?_
  refine r_iload_n (pc := 4) dX6_holidayOn_4 rfl rfl ?_
  refine r_imul (pc := 5) dX6_holidayOn_5 ?_
  refine r_iadd (pc := 6) dX6_holidayOn_6 ?_
  refine r_bipush (pc := 7) (v := 15) dX6_holidayOn_7 (by decide) ?_
  refine r_iadd (pc := 9) dX6_holidayOn_9 ?_
  refine r_iconst (pc := 10) (v := 2) dX6_holidayOn_10 (by decide) ?_
  refine r_aload_n (pc := 11) dX6_holidayOn_11 rfl rfl ?_
  refine r_iload_n (pc := 12) dX6_holidayOn_12 rfl rfl ?_
  refine r_bipush (pc := 13) (v := 14) dX6_holidayOn_13 (by decide) ?_
  obtain ⟨m1, x2, q3, h⟩ := gCl_some h
  refine r_callS (pc := 15) [.ref _, .int _, .int _] (tX6_of _ _ _ hF _ _ _ _ _ _ q3 h1) ⟨rfl, rfl⟩ cd_X6_of wX6_53 nm_X6_of rfl (by rw [hRm]; decide) rfl (Nat.le_of_ble_eq_true rfl) dX6_holidayOn_15 ?_
  refine r_imul (pc := 18) dX6_holidayOn_18 ?_
  refine r_iadd (pc := 19) dX6_holidayOn_19 ?_
  refine r_istoreL (pc := 20) dX6_holidayOn_20 (by rw [hnL]; decide) h (fun x4 h => ?_)
  refine r_aload_n (pc := 22) dX6_holidayOn_22 rfl rfl ?_
  refine r_iload (pc := 23) dX6_holidayOn_23 rfl ?_
  refine r_iload_n (pc := 25) dX6_holidayOn_25 rfl rfl ?_
  refine r_iast (pc := 26) dX6_holidayOn_26 h1 h (fun m5 h => ?_)
  refine r_aload_n (pc := 27) dX6_holidayOn_27 rfl rfl ?_
  refine r_iload (pc := 28) dX6_holidayOn_28 rfl ?_
  refine r_iconst (pc := 30) (v := 1) dX6_holidayOn_30 (by decide) ?_
  refine r_iadd (pc := 31) dX6_holidayOn_31 ?_
  refine r_iload_n (pc := 32) dX6_holidayOn_32 rfl rfl ?_
  refine r_iast (pc := 33) dX6_holidayOn_33 h1 h (fun m6 h => ?_)
  refine r_aload_n (pc := 34) dX6_holidayOn_34 rfl rfl ?_
  refine r_iload_n (pc := 35) dX6_holidayOn_35 rfl rfl ?_
  refine r_bipush (pc := 36) (v := 14) dX6_holidayOn_36 (by decide) ?_
  refine r_iconst (pc := 38) (v := 1) dX6_holidayOn_38 (by decide) ?_
  obtain ⟨m7, q9, h⟩ := gCv_some h
  refine r_callS (pc := 39) [.ref _, .int _, .int _, .int _] (tX6_add _ _ _ hF _ _ _ _ _ _ _ q9 h1) ⟨rfl, rfl⟩ cd_X6_add wX6_71 nm_X6_add rfl (by rw [hRm]; decide) rfl (Nat.le_of_ble_eq_true rfl) dX6_holidayOn_39 ?_
  refine r_aload_n (pc := 42) dX6_holidayOn_42 rfl rfl ?_
  refine r_iload_n (pc := 43) dX6_holidayOn_43 rfl rfl ?_
  refine r_bipush (pc := 44) (v := 14) dX6_holidayOn_44 (by decide) ?_
  obtain ⟨m10, x11, q12, h⟩ := gCl_some h
  refine r_callS (pc := 46) [.ref _, .int _, .int _] (tX6_of _ _ _ hF _ _ _ _ _ _ q12 h1) ⟨rfl, rfl⟩ cd_X6_of wX6_53 nm_X6_of rfl (by rw [hRm]; decide) rfl (Nat.le_of_ble_eq_true rfl) dX6_holidayOn_46 ?_
  exact r_iretH dX6_holidayOn_49 h he
def fX6_dropOn_L24 (a0 : Nat) (a0n : Nat) (v1 : Int32) (v3 : Int32) : Nat → Int32 → gM → Option (gM × Int32)
  | 0, _, _ => none
  | n + 1, v4, m => gCl (fX6_of a0 a0n v1 14 m) fun m6 x7 => (if (2 * x7) ≤ v4 then gCl (fX6_of a0 a0n v1 14 m6) fun m9 x10 => some (m9, x10) else gRd m6 a0 a0n ((v3 + v4) + 2) fun x12 => gWr m6 a0 a0n (v3 + v4) x12 fun m13 => gLt (v4 + 1) fun x14 => fX6_dropOn_L24 a0 a0n v1 v3 n x14 m13)
def fX6_dropOn (a1 a1n : Nat) (p2 : Int32) (p3 : Int32) (m : gM) : Option (gM × Int32) := gCv (fX6_add a1 a1n p2 14 (-1) m) fun m1 => gLt (((48 + (21 * p2)) + 15)) fun x4 => gLt ((2 * p3)) fun x5 => fX6_dropOn_L24 a1 a1n p2 x4 gFU x5 m1
abbrev rmX6_dropOn : Room := { frames := 1, cells := 0, slots := 0, locals := 23 }
set_option maxHeartbeats 4000000 in
set_option maxRecDepth 100000 in
theorem tX6_dropOn (l : Launch) (G : gX) (u : gU) (hF : gFull u) (a1 a1n : Nat) (p2 : Int32) (p3 : Int32) (m : gM) (o : gM × Int32) (h : fX6_dropOn a1 a1n p2 p3 m = some o) (h1 : gIn u a1 7 a1n) : gMet l G u yX6_dropOn (.code yX6_dropOn cX6_dropOn 5 (some .int)) rmX6_dropOn [.ref a1, .int p2, .int p3] m o.1 (some (.int o.2)) := by
  refine gMet_of (own := RX6) (k := 2) (by decide) rfl ⟨rfl, rfl⟩ (Nat.le_of_ble_eq_true rfl) [some (.ref a1), some (.int p2), some (.int p3), none, none] rfl (fun Y hG hu hnL hLn hRm he => ?_)
  subst hG hu hLn
  unfold fX6_dropOn at h
  refine r_aload_n (pc := 0) dX6_dropOn_0 rfl rfl ?_
  refine r_iload_n (pc := 1) dX6_dropOn_1 rfl rfl ?_
  refine r_bipush (pc := 2) (v := 14) dX6_dropOn_2 (by decide) ?_
  refine r_iconst (pc := 4) (v := (-1)) dX6_dropOn_4 (by decide) ?_
  obtain ⟨m1, q3, h⟩ := gCv_some h
  refine r_callS (pc := 5) [.ref _, .int _, .int _, .int _] (tX6_add _ _ _ hF _ _ _ _ _ _ _ q3 h1) ⟨rfl, rfl⟩ cd_X6_add wX6_71 nm_X6_add rfl (by rw [hRm]; decide) rfl (Nat.le_of_ble_eq_true rfl) dX6_dropOn_5 ?_
  refine r_bipush (pc := 8) (v := 48) dX6_dropOn_8 (by decide) ?_
  refine r_bipush (pc := 10) (v := 21) dX6_dropOn_10 (by decide) ?_
  refine r_iload_n (pc := 12) dX6_dropOn_12 rfl rfl ?_
  refine r_imul (pc := 13) dX6_dropOn_13 ?_
  refine r_iadd (pc := 14) dX6_dropOn_14 ?_
  refine r_bipush (pc := 15) (v := 15) dX6_dropOn_15 (by decide) ?_
  refine r_iadd (pc := 17) dX6_dropOn_17 ?_
  refine r_istore_nL (pc := 18) dX6_dropOn_18 rfl (by rw [hnL]; decide) h (fun x4 h => ?_)
  refine r_iconst (pc := 19) (v := 2) dX6_dropOn_19 (by decide) ?_
  refine r_iload_n (pc := 20) dX6_dropOn_20 rfl rfl ?_
  refine r_imul (pc := 21) dX6_dropOn_21 ?_
  refine r_istoreL (pc := 22) dX6_dropOn_22 (by rw [hnL]; decide) h (fun x5 h => ?_)
  have L17 : ∀ (n15 : Nat) (v18 : Int32) (m19 : gM), fX6_dropOn_L24 a1 a1n p2 x4 n15 v18 m19 = some o → AW Y cX6_dropOn RX6 24 [some (.ref a1), some (.int p2), none, some (.int x4), some (.int v18)] [] m19 := by
    intro n15
    induction n15 with
    | zero =>
      intro v18 m19 h
      exact absurd h (by simp [fX6_dropOn_L24])
    | succ n15 ih16 =>
      intro v18 m19 h
      rw [fX6_dropOn_L24] at h
      refine r_iload (pc := 24) dX6_dropOn_24 rfl ?_
      refine r_iconst (pc := 26) (v := 2) dX6_dropOn_26 (by decide) ?_
      refine r_aload_n (pc := 27) dX6_dropOn_27 rfl rfl ?_
      refine r_iload_n (pc := 28) dX6_dropOn_28 rfl rfl ?_
      refine r_bipush (pc := 29) (v := 14) dX6_dropOn_29 (by decide) ?_
      obtain ⟨m20, x21, q22, h⟩ := gCl_some h
      refine r_callS (pc := 31) [.ref _, .int _, .int _] (tX6_of _ _ _ hF _ _ _ _ _ _ q22 h1) ⟨rfl, rfl⟩ cd_X6_of wX6_53 nm_X6_of rfl (by rw [hRm]; decide) rfl (Nat.le_of_ble_eq_true rfl) dX6_dropOn_31 ?_
      refine r_imul (pc := 34) dX6_dropOn_34 ?_
      refine r_icmp_ge (pc := 35) (tgt := 58) dX6_dropOn_35 (by decide) h (fun h => ?_) (fun h => ?_)
      · refine r_aload_n (pc := 58) dX6_dropOn_58 rfl rfl ?_
        refine r_iload_n (pc := 59) dX6_dropOn_59 rfl rfl ?_
        refine r_bipush (pc := 60) (v := 14) dX6_dropOn_60 (by decide) ?_
        obtain ⟨m23, x24, q25, h⟩ := gCl_some h
        refine r_callS (pc := 62) [.ref _, .int _, .int _] (tX6_of _ _ _ hF _ _ _ _ _ _ q25 h1) ⟨rfl, rfl⟩ cd_X6_of wX6_53 nm_X6_of rfl (by rw [hRm]; decide) rfl (Nat.le_of_ble_eq_true rfl) dX6_dropOn_62 ?_
        exact r_iretH dX6_dropOn_65 h he
      · refine r_aload_n (pc := 38) dX6_dropOn_38 rfl rfl ?_
        refine r_iload_n (pc := 39) dX6_dropOn_39 rfl rfl ?_
        refine r_iload (pc := 40) dX6_dropOn_40 rfl ?_
        refine r_iadd (pc := 42) dX6_dropOn_42 ?_
        refine r_aload_n (pc := 43) dX6_dropOn_43 rfl rfl ?_
        refine r_iload_n (pc := 44) dX6_dropOn_44 rfl rfl ?_
        refine r_iload (pc := 45) dX6_dropOn_45 rfl ?_
        refine r_iadd (pc := 47) dX6_dropOn_47 ?_
        refine r_iconst (pc := 48) (v := 2) dX6_dropOn_48 (by decide) ?_
        refine r_iadd (pc := 49) dX6_dropOn_49 ?_
        refine r_iald (pc := 50) dX6_dropOn_50 h1 h (fun x26 h => ?_)
        refine r_iast (pc := 51) dX6_dropOn_51 h1 h (fun m27 h => ?_)
        refine r_iinc (pc := 52) (d := 1) dX6_dropOn_52 rfl (by decide) (by rw [hnL]; decide) h (fun x28 h => ?_)
        refine r_goto (pc := 55) (tgt := 24) dX6_dropOn_55 (by decide) ?_
        exact r_mask [true, true, false, true, true] rfl (ih16 _ _ h)
  exact r_mask [true, true, false, true, true] rfl (L17 _ _ _ h)
def fX6_closeOn_L26 (a0 : Nat) (a0n : Nat) (v1 : Int32) : Nat → Int32 → Int32 → gM → Option (gM × Int32)
  | 0, _, _, _ => none
  | n + 1, v4, v5, m => (if 7 ≤ v5 then some (m, v4) else gRd m a0 a0n ((20 + (7 * v1)) + v5) fun x2 => gLt ((v4 + x2)) fun x3 => gLt (v5 + 1) fun x4 => fX6_closeOn_L26 a0 a0n v1 n x3 x4 m)
def fX6_closeOn (a1 a1n : Nat) (p2 : Int32) (p3 : Int32) (p4 : Int32) (m : gM) : Option (gM × Int32) := (if p4 = 0 then gWr m a1 a1n ((20 + (7 * p2)) + p3) 0 fun m1 => fX6_closeOn_L26 a1 a1n p2 gFU 0 0 m1 else gWr m a1 a1n ((20 + (7 * p2)) + p3) 1 fun m14 => fX6_closeOn_L26 a1 a1n p2 gFU 0 0 m14)
abbrev rmX6_closeOn : Room := { frames := 0, cells := 0, slots := 0, locals := 0 }
set_option maxHeartbeats 4000000 in
set_option maxRecDepth 100000 in
theorem tX6_closeOn (l : Launch) (G : gX) (u : gU) (hF : gFull u) (a1 a1n : Nat) (p2 : Int32) (p3 : Int32) (p4 : Int32) (m : gM) (o : gM × Int32) (h : fX6_closeOn a1 a1n p2 p3 p4 m = some o) (h1 : gIn u a1 7 a1n) : gMet l G u yX6_closeOn (.code yX6_closeOn cX6_closeOn 6 (some .int)) rmX6_closeOn [.ref a1, .int p2, .int p3, .int p4] m o.1 (some (.int o.2)) := by
  refine gMet_of (own := RX6) (k := 2) (by decide) rfl ⟨rfl, rfl⟩ (Nat.le_of_ble_eq_true rfl) [some (.ref a1), some (.int p2), some (.int p3), some (.int p4), none, none] rfl (fun Y hG hu hnL hLn hRm he => ?_)
  subst hG hu hLn
  unfold fX6_closeOn at h
  refine r_aload_n (pc := 0) dX6_closeOn_0 rfl rfl ?_
  refine r_bipush (pc := 1) (v := 20) dX6_closeOn_1 (by decide) ?_
  refine r_bipush (pc := 3) (v := 7) dX6_closeOn_3 (by decide) ?_
  refine r_iload_n (pc := 5) dX6_closeOn_5 rfl rfl ?_
  refine r_imul (pc := 6) dX6_closeOn_6 ?_
  refine r_iadd (pc := 7) dX6_closeOn_7 ?_
  refine r_iload_n (pc := 8) dX6_closeOn_8 rfl rfl ?_
  refine r_iadd (pc := 9) dX6_closeOn_9 ?_
  refine r_iload_n (pc := 10) dX6_closeOn_10 rfl rfl ?_
  refine r_if_eq (pc := 11) (tgt := 18) dX6_closeOn_11 (by decide) h (fun h => ?_) (fun h => ?_)
  · refine r_iconst (pc := 18) (v := 0) dX6_closeOn_18 (by decide) ?_
    refine r_iast (pc := 19) dX6_closeOn_19 h1 h (fun m1 h => ?_)
    refine r_iconst (pc := 20) (v := 0) dX6_closeOn_20 (by decide) ?_
    refine r_istore (pc := 21) dX6_closeOn_21 (by rw [hnL]; decide) rfl ?_
    refine r_iconst (pc := 23) (v := 0) dX6_closeOn_23 (by decide) ?_
    refine r_istore (pc := 24) dX6_closeOn_24 (by rw [hnL]; decide) rfl ?_
    have L7 : ∀ (n5 : Nat) (v8 : Int32) (v9 : Int32) (m10 : gM), fX6_closeOn_L26 a1 a1n p2 n5 v8 v9 m10 = some o → AW Y cX6_closeOn RX6 26 [some (.ref a1), some (.int p2), none, none, some (.int v8), some (.int v9)] [] m10 := by
      intro n5
      induction n5 with
      | zero =>
        intro v8 v9 m10 h
        exact absurd h (by simp [fX6_closeOn_L26])
      | succ n5 ih6 =>
        intro v8 v9 m10 h
        rw [fX6_closeOn_L26] at h
        refine r_iload (pc := 26) dX6_closeOn_26 rfl ?_
        refine r_bipush (pc := 28) (v := 7) dX6_closeOn_28 (by decide) ?_
        refine r_icmp_ge (pc := 30) (tgt := 56) dX6_closeOn_30 (by decide) h (fun h => ?_) (fun h => ?_)
        · refine r_iload (pc := 56) dX6_closeOn_56 rfl ?_
          exact r_iretH dX6_closeOn_58 h he
        · refine r_iload (pc := 33) dX6_closeOn_33 rfl ?_
          refine r_aload_n (pc := 35) dX6_closeOn_35 rfl rfl ?_
          refine r_bipush (pc := 36) (v := 20) dX6_closeOn_36 (by decide) ?_
          refine r_bipush (pc := 38) (v := 7) dX6_closeOn_38 (by decide) ?_
          refine r_iload_n (pc := 40) dX6_closeOn_40 rfl rfl ?_
          refine r_imul (pc := 41) dX6_closeOn_41 ?_
          refine r_iadd (pc := 42) dX6_closeOn_42 ?_
          refine r_iload (pc := 43) dX6_closeOn_43 rfl ?_
          refine r_iadd (pc := 45) dX6_closeOn_45 ?_
          refine r_iald (pc := 46) dX6_closeOn_46 h1 h (fun x11 h => ?_)
          refine r_iadd (pc := 47) dX6_closeOn_47 ?_
          refine r_istoreL (pc := 48) dX6_closeOn_48 (by rw [hnL]; decide) h (fun x12 h => ?_)
          refine r_iinc (pc := 50) (d := 1) dX6_closeOn_50 rfl (by decide) (by rw [hnL]; decide) h (fun x13 h => ?_)
          refine r_goto (pc := 53) (tgt := 26) dX6_closeOn_53 (by decide) ?_
          exact r_mask [true, true, false, false, true, true] rfl (ih6 _ _ _ h)
    exact r_mask [true, true, false, false, true, true] rfl (L7 _ _ _ _ h)
  · refine r_iconst (pc := 14) (v := 1) dX6_closeOn_14 (by decide) ?_
    refine r_goto (pc := 15) (tgt := 19) dX6_closeOn_15 (by decide) ?_
    refine r_iast (pc := 19) dX6_closeOn_19 h1 h (fun m14 h => ?_)
    refine r_iconst (pc := 20) (v := 0) dX6_closeOn_20 (by decide) ?_
    refine r_istore (pc := 21) dX6_closeOn_21 (by rw [hnL]; decide) rfl ?_
    refine r_iconst (pc := 23) (v := 0) dX6_closeOn_23 (by decide) ?_
    refine r_istore (pc := 24) dX6_closeOn_24 (by rw [hnL]; decide) rfl ?_
    have L17 : ∀ (n15 : Nat) (v18 : Int32) (v19 : Int32) (m20 : gM), fX6_closeOn_L26 a1 a1n p2 n15 v18 v19 m20 = some o → AW Y cX6_closeOn RX6 26 [some (.ref a1), some (.int p2), none, none, some (.int v18), some (.int v19)] [] m20 := by
      intro n15
      induction n15 with
      | zero =>
        intro v18 v19 m20 h
        exact absurd h (by simp [fX6_closeOn_L26])
      | succ n15 ih16 =>
        intro v18 v19 m20 h
        rw [fX6_closeOn_L26] at h
        refine r_iload (pc := 26) dX6_closeOn_26 rfl ?_
        refine r_bipush (pc := 28) (v := 7) dX6_closeOn_28 (by decide) ?_
        refine r_icmp_ge (pc := 30) (tgt := 56) dX6_closeOn_30 (by decide) h (fun h => ?_) (fun h => ?_)
        · refine r_iload (pc := 56) dX6_closeOn_56 rfl ?_
          exact r_iretH dX6_closeOn_58 h he
        · refine r_iload (pc := 33) dX6_closeOn_33 rfl ?_
          refine r_aload_n (pc := 35) dX6_closeOn_35 rfl rfl ?_
          refine r_bipush (pc := 36) (v := 20) dX6_closeOn_36 (by decide) ?_
          refine r_bipush (pc := 38) (v := 7) dX6_closeOn_38 (by decide) ?_
          refine r_iload_n (pc := 40) dX6_closeOn_40 rfl rfl ?_
          refine r_imul (pc := 41) dX6_closeOn_41 ?_
          refine r_iadd (pc := 42) dX6_closeOn_42 ?_
          refine r_iload (pc := 43) dX6_closeOn_43 rfl ?_
          refine r_iadd (pc := 45) dX6_closeOn_45 ?_
          refine r_iald (pc := 46) dX6_closeOn_46 h1 h (fun x21 h => ?_)
          refine r_iadd (pc := 47) dX6_closeOn_47 ?_
          refine r_istoreL (pc := 48) dX6_closeOn_48 (by rw [hnL]; decide) h (fun x22 h => ?_)
          refine r_iinc (pc := 50) (d := 1) dX6_closeOn_50 rfl (by decide) (by rw [hnL]; decide) h (fun x23 h => ?_)
          refine r_goto (pc := 53) (tgt := 26) dX6_closeOn_53 (by decide) ?_
          exact r_mask [true, true, false, false, true, true] rfl (ih16 _ _ _ h)
    exact r_mask [true, true, false, false, true, true] rfl (L17 _ _ _ _ h)
def fX6_swapOn (a1 a1n : Nat) (p2 : Int32) (p3 : Int32) (m : gM) : Option (gM × Int32) := gCl (fX6_placeOf a1 a1n p2 m) fun m1 x2 => gCl (fX6_placeOf a1 a1n p3 m1) fun m4 x5 => gWr m4 a1 a1n (16 + x2) p3 fun m7 => gWr m7 a1 a1n (16 + x5) p2 fun m8 => some (m8, x5)
abbrev rmX6_swapOn : Room := { frames := 1, cells := 0, slots := 0, locals := 22 }
set_option maxHeartbeats 4000000 in
set_option maxRecDepth 100000 in
theorem tX6_swapOn (l : Launch) (G : gX) (u : gU) (hF : gFull u) (a1 a1n : Nat) (p2 : Int32) (p3 : Int32) (m : gM) (o : gM × Int32) (h : fX6_swapOn a1 a1n p2 p3 m = some o) (h1 : gIn u a1 7 a1n) : gMet l G u yX6_swapOn (.code yX6_swapOn cX6_swapOn 5 (some .int)) rmX6_swapOn [.ref a1, .int p2, .int p3] m o.1 (some (.int o.2)) := by
  refine gMet_of (own := RX6) (k := 2) (by decide) rfl ⟨rfl, rfl⟩ (Nat.le_of_ble_eq_true rfl) [some (.ref a1), some (.int p2), some (.int p3), none, none] rfl (fun Y hG hu hnL hLn hRm he => ?_)
  subst hG hu hLn
  unfold fX6_swapOn at h
  refine r_aload_n (pc := 0) dX6_swapOn_0 rfl rfl ?_
  refine r_iload_n (pc := 1) dX6_swapOn_1 rfl rfl ?_
  obtain ⟨m1, x2, q3, h⟩ := gCl_some h
  refine r_callS (pc := 2) [.ref _, .int _] (tX6_placeOf _ _ _ hF _ _ _ _ _ q3 h1) ⟨rfl, rfl⟩ cd_X6_placeOf wX6_100 nm_X6_placeOf rfl (by rw [hRm]; decide) rfl (Nat.le_of_ble_eq_true rfl) dX6_swapOn_2 ?_
  refine r_istore_n (pc := 5) dX6_swapOn_5 rfl (by rw [hnL]; decide) rfl ?_
  refine r_aload_n (pc := 6) dX6_swapOn_6 rfl rfl ?_
  refine r_iload_n (pc := 7) dX6_swapOn_7 rfl rfl ?_
  obtain ⟨m4, x5, q6, h⟩ := gCl_some h
  refine r_callS (pc := 8) [.ref _, .int _] (tX6_placeOf _ _ _ hF _ _ _ _ _ q6 h1) ⟨rfl, rfl⟩ cd_X6_placeOf wX6_100 nm_X6_placeOf rfl (by rw [hRm]; decide) rfl (Nat.le_of_ble_eq_true rfl) dX6_swapOn_8 ?_
  refine r_istore (pc := 11) dX6_swapOn_11 (by rw [hnL]; decide) rfl ?_
  refine r_aload_n (pc := 13) dX6_swapOn_13 rfl rfl ?_
  refine r_bipush (pc := 14) (v := 16) dX6_swapOn_14 (by decide) ?_
  refine r_iload_n (pc := 16) dX6_swapOn_16 rfl rfl ?_
  refine r_iadd (pc := 17) dX6_swapOn_17 ?_
  refine r_iload_n (pc := 18) dX6_swapOn_18 rfl rfl ?_
  refine r_iast (pc := 19) dX6_swapOn_19 h1 h (fun m7 h => ?_)
  refine r_aload_n (pc := 20) dX6_swapOn_20 rfl rfl ?_
  refine r_bipush (pc := 21) (v := 16) dX6_swapOn_21 (by decide) ?_
  refine r_iload (pc := 23) dX6_swapOn_23 rfl ?_
  refine r_iadd (pc := 25) dX6_swapOn_25 ?_
  refine r_iload_n (pc := 26) dX6_swapOn_26 rfl rfl ?_
  refine r_iast (pc := 27) dX6_swapOn_27 h1 h (fun m8 h => ?_)
  refine r_iload (pc := 28) dX6_swapOn_28 rfl ?_
  exact r_iretH dX6_swapOn_30 h he
def fX6_append (p1 : Int32) (m : gM) : Option (gM × Int32) := gCl (fX6_in (p1.toInt64) 0 255 m) fun m1 x2 => (if x2 = 0 then gCl (fX6_refused 1 m1) fun m23 x24 => (if x24 = 0 then gLt (m23 (5693 + 2)) fun x27 => gWr m23 5704 120 x27 p1 fun m28 => gLt (m28 (5693 + 2)) fun x29 => gLt (upd m28 (5693 + 2) (x29 + 1)) fun m30 => gLt (m30 (5693 + 2)) fun x31 => some (m30, x31) else some (m23, 0)) else gLt (m1 (5693 + 2)) fun x4 => (if x4 = 120 then gCl (fX6_refused 2 m1) fun m14 x15 => (if x15 = 0 then gLt (m14 (5693 + 2)) fun x18 => gWr m14 5704 120 x18 p1 fun m19 => gLt (m19 (5693 + 2)) fun x20 => gLt (upd m19 (5693 + 2) (x20 + 1)) fun m21 => gLt (m21 (5693 + 2)) fun x22 => some (m21, x22) else some (m14, 0)) else gCl (fX6_refused 0 m1) fun m5 x6 => (if x6 = 0 then gLt (m5 (5693 + 2)) fun x9 => gWr m5 5704 120 x9 p1 fun m10 => gLt (m10 (5693 + 2)) fun x11 => gLt (upd m10 (5693 + 2) (x11 + 1)) fun m12 => gLt (m12 (5693 + 2)) fun x13 => some (m12, x13) else some (m5, 0))))
abbrev rmX6_append : Room := { frames := 1, cells := 0, slots := 0, locals := 25 }
set_option maxHeartbeats 4000000 in
set_option maxRecDepth 100000 in
theorem tX6_append (l : Launch) (G : gX) (u : gU) (hF : gFull u) (p1 : Int32) (m : gM) (o : gM × Int32) (h : fX6_append p1 m = some o)  : gMet l G u yX6_append (.code yX6_append cX6_append 2 (some .int)) rmX6_append [.ref 5693, .int p1] m o.1 (some (.int o.2)) := by
  refine gMet_of (own := RX6) (k := 0) (by decide) rfl ⟨rfl, rfl⟩ (Nat.le_of_ble_eq_true rfl) [some (.ref 5693), some (.int p1)] rfl (fun Y hG hu hnL hLn hRm he => ?_)
  subst hG hu hLn
  unfold fX6_append at h
  refine r_aload_n (pc := 0) dX6_append_0 rfl rfl ?_
  refine r_iload_n (pc := 1) dX6_append_1 rfl rfl ?_
  refine r_i2l (pc := 2) dX6_append_2 ?_
  refine r_lconst (pc := 3) (v := 0) dX6_append_3 (by decide) ?_
  refine r_ldc2 (pc := 4) (v := 255) dX6_append_4 cX6_103 ?_
  obtain ⟨m1, x2, q3, h⟩ := gCl_some h
  refine r_callS (pc := 7) [.long _, .long _, .long _] (tX6_in _ _ _ hF _ _ _ _ _ q3) ⟨rfl, rfl⟩ cd_X6_in wX6_37 nm_X6_in rfl (by rw [hRm]; decide) rfl (Nat.le_of_ble_eq_true rfl) dX6_append_7 ?_
  refine r_if_ne (pc := 10) (tgt := 17) dX6_append_10 (by decide) h (fun h => ?_) (fun h => ?_)
  · refine r_aload_n (pc := 17) dX6_append_17 rfl rfl ?_
    refine fX6_105 (pc := 18) dX6_append_18 (gO5 hF) h (fun x4 h => ?_)
    refine r_bipush (pc := 21) (v := 120) dX6_append_21 (by decide) ?_
    refine r_icmp_ne (pc := 23) (tgt := 30) dX6_append_23 (by decide) h (fun h => ?_) (fun h => ?_)
    · refine r_iconst (pc := 30) (v := 0) dX6_append_30 (by decide) ?_
      obtain ⟨m5, x6, q7, h⟩ := gCl_some h
      refine r_callV (kd := 5) (pc := 31) [.int _] (tX6_refused _ _ _ hF _ _ _ q7) ⟨rfl, rfl⟩ cd_X6_refused wX6_108 nm_X6_refused rfl (by rw [hRm]; decide) rfl (Nat.le_of_ble_eq_true rfl) rfl (by decide) (gO5 hF) dX6_append_31 ?_
      refine r_if_eq (pc := 34) (tgt := 39) dX6_append_34 (by decide) h (fun h => ?_) (fun h => ?_)
      · refine r_aload_n (pc := 39) dX6_append_39 rfl rfl ?_
        refine fX6_7 (pc := 40) hF dX6_append_40 (fun b8 => ?_)
        refine r_aload_n (pc := 43) dX6_append_43 rfl rfl ?_
        refine fX6_105 (pc := 44) dX6_append_44 (gO5 hF) h (fun x9 h => ?_)
        refine r_iload_n (pc := 47) dX6_append_47 rfl rfl ?_
        refine r_iast (pc := 48) dX6_append_48 b8 h (fun m10 h => ?_)
        refine r_aload_n (pc := 49) dX6_append_49 rfl rfl ?_
        refine r_dup (pc := 50) dX6_append_50 rfl ?_
        refine fX6_105 (pc := 51) dX6_append_51 (gO5 hF) h (fun x11 h => ?_)
        refine r_iconst (pc := 54) (v := 1) dX6_append_54 (by decide) ?_
        refine r_iadd (pc := 55) dX6_append_55 ?_
        refine fX6_105p (pc := 56) dX6_append_56 (gO5 hF) h (fun m12 h => ?_)
        refine r_aload_n (pc := 59) dX6_append_59 rfl rfl ?_
        refine fX6_105 (pc := 60) dX6_append_60 (gO5 hF) h (fun x13 h => ?_)
        exact r_iretH dX6_append_63 h he
      · refine r_iconst (pc := 37) (v := 0) dX6_append_37 (by decide) ?_
        exact r_iretH dX6_append_38 h he
    · refine r_iconst (pc := 26) (v := 2) dX6_append_26 (by decide) ?_
      refine r_goto (pc := 27) (tgt := 31) dX6_append_27 (by decide) ?_
      obtain ⟨m14, x15, q16, h⟩ := gCl_some h
      refine r_callV (kd := 5) (pc := 31) [.int _] (tX6_refused _ _ _ hF _ _ _ q16) ⟨rfl, rfl⟩ cd_X6_refused wX6_108 nm_X6_refused rfl (by rw [hRm]; decide) rfl (Nat.le_of_ble_eq_true rfl) rfl (by decide) (gO5 hF) dX6_append_31 ?_
      refine r_if_eq (pc := 34) (tgt := 39) dX6_append_34 (by decide) h (fun h => ?_) (fun h => ?_)
      · refine r_aload_n (pc := 39) dX6_append_39 rfl rfl ?_
        refine fX6_7 (pc := 40) hF dX6_append_40 (fun b17 => ?_)
        refine r_aload_n (pc := 43) dX6_append_43 rfl rfl ?_
        refine fX6_105 (pc := 44) dX6_append_44 (gO5 hF) h (fun x18 h => ?_)
        refine r_iload_n (pc := 47) dX6_append_47 rfl rfl ?_
        refine r_iast (pc := 48) dX6_append_48 b17 h (fun m19 h => ?_)
        refine r_aload_n (pc := 49) dX6_append_49 rfl rfl ?_
        refine r_dup (pc := 50) dX6_append_50 rfl ?_
        refine fX6_105 (pc := 51) dX6_append_51 (gO5 hF) h (fun x20 h => ?_)
        refine r_iconst (pc := 54) (v := 1) dX6_append_54 (by decide) ?_
        refine r_iadd (pc := 55) dX6_append_55 ?_
        refine fX6_105p (pc := 56) dX6_append_56 (gO5 hF) h (fun m21 h => ?_)
        refine r_aload_n (pc := 59) dX6_append_59 rfl rfl ?_
        refine fX6_105 (pc := 60) dX6_append_60 (gO5 hF) h (fun x22 h => ?_)
        exact r_iretH dX6_append_63 h he
      · refine r_iconst (pc := 37) (v := 0) dX6_append_37 (by decide) ?_
        exact r_iretH dX6_append_38 h he
  · refine r_iconst (pc := 13) (v := 1) dX6_append_13 (by decide) ?_
    refine r_goto (pc := 14) (tgt := 31) dX6_append_14 (by decide) ?_
    obtain ⟨m23, x24, q25, h⟩ := gCl_some h
    refine r_callV (kd := 5) (pc := 31) [.int _] (tX6_refused _ _ _ hF _ _ _ q25) ⟨rfl, rfl⟩ cd_X6_refused wX6_108 nm_X6_refused rfl (by rw [hRm]; decide) rfl (Nat.le_of_ble_eq_true rfl) rfl (by decide) (gO5 hF) dX6_append_31 ?_
    refine r_if_eq (pc := 34) (tgt := 39) dX6_append_34 (by decide) h (fun h => ?_) (fun h => ?_)
    · refine r_aload_n (pc := 39) dX6_append_39 rfl rfl ?_
      refine fX6_7 (pc := 40) hF dX6_append_40 (fun b26 => ?_)
      refine r_aload_n (pc := 43) dX6_append_43 rfl rfl ?_
      refine fX6_105 (pc := 44) dX6_append_44 (gO5 hF) h (fun x27 h => ?_)
      refine r_iload_n (pc := 47) dX6_append_47 rfl rfl ?_
      refine r_iast (pc := 48) dX6_append_48 b26 h (fun m28 h => ?_)
      refine r_aload_n (pc := 49) dX6_append_49 rfl rfl ?_
      refine r_dup (pc := 50) dX6_append_50 rfl ?_
      refine fX6_105 (pc := 51) dX6_append_51 (gO5 hF) h (fun x29 h => ?_)
      refine r_iconst (pc := 54) (v := 1) dX6_append_54 (by decide) ?_
      refine r_iadd (pc := 55) dX6_append_55 ?_
      refine fX6_105p (pc := 56) dX6_append_56 (gO5 hF) h (fun m30 h => ?_)
      refine r_aload_n (pc := 59) dX6_append_59 rfl rfl ?_
      refine fX6_105 (pc := 60) dX6_append_60 (gO5 hF) h (fun x31 h => ?_)
      exact r_iretH dX6_append_63 h he
    · refine r_iconst (pc := 37) (v := 0) dX6_append_37 (by decide) ?_
      exact r_iretH dX6_append_38 h he
def fX6_clearText  (m : gM) : Option (gM × Int32) := gLt (upd m (5693 + 0) 0) fun m1 => gLt (m1 (5693 + 2)) fun x2 => gLt (upd m1 (5693 + 2) 0) fun m3 => some (m3, x2)
abbrev rmX6_clearText : Room := { frames := 0, cells := 0, slots := 0, locals := 0 }
set_option maxHeartbeats 4000000 in
set_option maxRecDepth 100000 in
theorem tX6_clearText (l : Launch) (G : gX) (u : gU) (hF : gFull u)  (m : gM) (o : gM × Int32) (h : fX6_clearText  m = some o)  : gMet l G u yX6_clearText (.code yX6_clearText cX6_clearText 2 (some .int)) rmX6_clearText [.ref 5693] m o.1 (some (.int o.2)) := by
  refine gMet_of (own := RX6) (k := 1) (by decide) rfl ⟨rfl, rfl⟩ (Nat.le_of_ble_eq_true rfl) [some (.ref 5693), none] rfl (fun Y hG hu hnL hLn hRm he => ?_)
  subst hG hu hLn
  unfold fX6_clearText at h
  refine r_aload_n (pc := 0) dX6_clearText_0 rfl rfl ?_
  refine r_iconst (pc := 1) (v := 0) dX6_clearText_1 (by decide) ?_
  refine fX6_33p (pc := 2) dX6_clearText_2 (gO5 hF) h (fun m1 h => ?_)
  refine r_aload_n (pc := 5) dX6_clearText_5 rfl rfl ?_
  refine fX6_105 (pc := 6) dX6_clearText_6 (gO5 hF) h (fun x2 h => ?_)
  refine r_istore_n (pc := 9) dX6_clearText_9 rfl (by rw [hnL]; decide) rfl ?_
  refine r_aload_n (pc := 10) dX6_clearText_10 rfl rfl ?_
  refine r_iconst (pc := 11) (v := 0) dX6_clearText_11 (by decide) ?_
  refine fX6_105p (pc := 12) dX6_clearText_12 (gO5 hF) h (fun m3 h => ?_)
  refine r_iload_n (pc := 15) dX6_clearText_15 rfl rfl ?_
  exact r_iretH dX6_clearText_16 h he
def fX6_figures_L6 (v1 : Int32) (v3 : Int32) (v4 : Int32) : Nat → Int32 → Int32 → gM → Option (gM × Int32)
  | 0, _, _, _ => none
  | n + 1, v5, v6, m => (if v6 ≤ 0 then (if v1 = (-1) then some (m, (-1)) else some (m, v5)) else (if v1 = (-1) then (if v1 = (-1) then some (m, (-1)) else some (m, v5)) else gLt (m (5693 + 9)) fun x1 => gLt (m (5693 + 2)) fun x2 => (if x2 ≤ x1 then gLt ((v5 + ((-1) * v6))) fun x3 => gCl (fX6_in ((-1).toInt64) 0 9 m) fun m4 x5 => (if x5 = 0 then some (m4, (-1)) else (if v4 < x3 then some (m4, (-1)) else (if v3 ≤ ((x3 + v6) - 1) then gLt (m4 (5693 + 9)) fun x7 => gLt (upd m4 (5693 + 9) (x7 + 1)) fun m8 => gLt ((v6 / 10)) fun x9 => fX6_figures_L6 v1 v3 v4 n x3 x9 m8 else some (m4, (-1))))) else gLt (m (5693 + 9)) fun x11 => gRd m 5704 120 x11 fun x12 => gLt ((x12 - 48)) fun x13 => gLt ((v5 + (x13 * v6))) fun x14 => gCl (fX6_in (x13.toInt64) 0 9 m) fun m15 x16 => (if x16 = 0 then some (m15, (-1)) else (if v4 < x14 then some (m15, (-1)) else (if v3 ≤ ((x14 + v6) - 1) then gLt (m15 (5693 + 9)) fun x18 => gLt (upd m15 (5693 + 9) (x18 + 1)) fun m19 => gLt ((v6 / 10)) fun x20 => fX6_figures_L6 v1 v3 v4 n x14 x20 m19 else some (m15, (-1))))))))
def fX6_figures (p1 : Int32) (p2 : Int32) (p3 : Int32) (p4 : Int32) (m : gM) : Option (gM × Int32) := fX6_figures_L6 p1 p3 p4 gFU 0 p2 m
abbrev rmX6_figures : Room := { frames := 1, cells := 0, slots := 0, locals := 25 }
set_option maxHeartbeats 4000000 in
set_option maxRecDepth 100000 in
theorem tX6_figures (l : Launch) (G : gX) (u : gU) (hF : gFull u) (p1 : Int32) (p2 : Int32) (p3 : Int32) (p4 : Int32) (m : gM) (o : gM × Int32) (h : fX6_figures p1 p2 p3 p4 m = some o)  : gMet l G u yX6_figures (.code yX6_figures cX6_figures 9 (some .int)) rmX6_figures [.ref 5693, .int p1, .int p2, .int p3, .int p4] m o.1 (some (.int o.2)) := by
  refine gMet_of (own := RX6) (k := 4) (by decide) rfl ⟨rfl, rfl⟩ (Nat.le_of_ble_eq_true rfl) [some (.ref 5693), some (.int p1), some (.int p2), some (.int p3), some (.int p4), none, none, none, none] rfl (fun Y hG hu hnL hLn hRm he => ?_)
  subst hG hu hLn
  unfold fX6_figures at h
  refine r_iconst (pc := 0) (v := 0) dX6_figures_0 (by decide) ?_
  refine r_istore (pc := 1) dX6_figures_1 (by rw [hnL]; decide) rfl ?_
  refine r_iload_n (pc := 3) dX6_figures_3 rfl rfl ?_
  refine r_istore (pc := 4) dX6_figures_4 (by rw [hnL]; decide) rfl ?_
  have L23 : ∀ (n21 : Nat) (v24 : Int32) (v25 : Int32) (m26 : gM), fX6_figures_L6 p1 p3 p4 n21 v24 v25 m26 = some o → AW Y cX6_figures RX6 6 [some (.ref 5693), some (.int p1), none, some (.int p3), some (.int p4), some (.int v24), some (.int v25), none, none] [] m26 := by
    intro n21
    induction n21 with
    | zero =>
      intro v24 v25 m26 h
      exact absurd h (by simp [fX6_figures_L6])
    | succ n21 ih22 =>
      intro v24 v25 m26 h
      rw [fX6_figures_L6] at h
      refine r_iload (pc := 6) dX6_figures_6 rfl ?_
      refine r_if_le (pc := 8) (tgt := 112) dX6_figures_8 (by decide) h (fun h => ?_) (fun h => ?_)
      · refine r_iload_n (pc := 112) dX6_figures_112 rfl rfl ?_
        refine r_iconst (pc := 113) (v := (-1)) dX6_figures_113 (by decide) ?_
        refine r_icmp_ne (pc := 114) (tgt := 121) dX6_figures_114 (by decide) h (fun h => ?_) (fun h => ?_)
        · refine r_iload (pc := 121) dX6_figures_121 rfl ?_
          exact r_iretH dX6_figures_123 h he
        · refine r_iconst (pc := 117) (v := (-1)) dX6_figures_117 (by decide) ?_
          refine r_goto (pc := 118) (tgt := 123) dX6_figures_118 (by decide) ?_
          exact r_iretH dX6_figures_123 h he
      · refine r_iload_n (pc := 11) dX6_figures_11 rfl rfl ?_
        refine r_iconst (pc := 12) (v := (-1)) dX6_figures_12 (by decide) ?_
        refine r_icmp_eq (pc := 13) (tgt := 112) dX6_figures_13 (by decide) h (fun h => ?_) (fun h => ?_)
        · refine r_iload_n (pc := 112) dX6_figures_112 rfl rfl ?_
          refine r_iconst (pc := 113) (v := (-1)) dX6_figures_113 (by decide) ?_
          refine r_icmp_ne (pc := 114) (tgt := 121) dX6_figures_114 (by decide) h (fun h => ?_) (fun h => ?_)
          · refine r_iload (pc := 121) dX6_figures_121 rfl ?_
            exact r_iretH dX6_figures_123 h he
          · refine r_iconst (pc := 117) (v := (-1)) dX6_figures_117 (by decide) ?_
            refine r_goto (pc := 118) (tgt := 123) dX6_figures_118 (by decide) ?_
            exact r_iretH dX6_figures_123 h he
        · refine r_aload_n (pc := 16) dX6_figures_16 rfl rfl ?_
          refine fX6_112 (pc := 17) dX6_figures_17 (gO5 hF) h (fun x27 h => ?_)
          refine r_aload_n (pc := 20) dX6_figures_20 rfl rfl ?_
          refine fX6_105 (pc := 21) dX6_figures_21 (gO5 hF) h (fun x28 h => ?_)
          refine r_icmp_ge (pc := 24) (tgt := 42) dX6_figures_24 (by decide) h (fun h => ?_) (fun h => ?_)
          · refine r_iconst (pc := 42) (v := (-1)) dX6_figures_42 (by decide) ?_
            refine r_istore (pc := 43) dX6_figures_43 (by rw [hnL]; decide) rfl ?_
            refine r_iload (pc := 45) dX6_figures_45 rfl ?_
            refine r_iload (pc := 47) dX6_figures_47 rfl ?_
            refine r_iload (pc := 49) dX6_figures_49 rfl ?_
            refine r_imul (pc := 51) dX6_figures_51 ?_
            refine r_iadd (pc := 52) dX6_figures_52 ?_
            refine r_istoreL (pc := 53) dX6_figures_53 (by rw [hnL]; decide) h (fun x29 h => ?_)
            refine r_iload (pc := 55) dX6_figures_55 rfl ?_
            refine r_i2l (pc := 57) dX6_figures_57 ?_
            refine r_lconst (pc := 58) (v := 0) dX6_figures_58 (by decide) ?_
            refine r_ldc2 (pc := 59) (v := 9) dX6_figures_59 cX6_47 ?_
            obtain ⟨m30, x31, q32, h⟩ := gCl_some h
            refine r_callS (pc := 62) [.long _, .long _, .long _] (tX6_in _ _ _ hF _ _ _ _ _ q32) ⟨rfl, rfl⟩ cd_X6_in wX6_37 nm_X6_in rfl (by rw [hRm]; decide) rfl (Nat.le_of_ble_eq_true rfl) dX6_figures_62 ?_
            refine r_if_eq (pc := 65) (tgt := 86) dX6_figures_65 (by decide) h (fun h => ?_) (fun h => ?_)
            · refine r_iconst (pc := 86) (v := (-1)) dX6_figures_86 (by decide) ?_
              exact r_iretH dX6_figures_87 h he
            · refine r_iload (pc := 68) dX6_figures_68 rfl ?_
              refine r_iload (pc := 70) dX6_figures_70 rfl ?_
              refine r_icmp_gt (pc := 72) (tgt := 86) dX6_figures_72 (by decide) h (fun h => ?_) (fun h => ?_)
              · refine r_iconst (pc := 86) (v := (-1)) dX6_figures_86 (by decide) ?_
                exact r_iretH dX6_figures_87 h he
              · refine r_iload (pc := 75) dX6_figures_75 rfl ?_
                refine r_iload (pc := 77) dX6_figures_77 rfl ?_
                refine r_iadd (pc := 79) dX6_figures_79 ?_
                refine r_iconst (pc := 80) (v := 1) dX6_figures_80 (by decide) ?_
                refine r_isub (pc := 81) dX6_figures_81 ?_
                refine r_iload_n (pc := 82) dX6_figures_82 rfl rfl ?_
                refine r_icmp_ge (pc := 83) (tgt := 88) dX6_figures_83 (by decide) h (fun h => ?_) (fun h => ?_)
                · refine r_iload (pc := 88) dX6_figures_88 rfl ?_
                  refine r_istore (pc := 90) dX6_figures_90 (by rw [hnL]; decide) rfl ?_
                  refine r_aload_n (pc := 92) dX6_figures_92 rfl rfl ?_
                  refine r_dup (pc := 93) dX6_figures_93 rfl ?_
                  refine fX6_112 (pc := 94) dX6_figures_94 (gO5 hF) h (fun x33 h => ?_)
                  refine r_iconst (pc := 97) (v := 1) dX6_figures_97 (by decide) ?_
                  refine r_iadd (pc := 98) dX6_figures_98 ?_
                  refine fX6_112p (pc := 99) dX6_figures_99 (gO5 hF) h (fun m34 h => ?_)
                  refine r_iload (pc := 102) dX6_figures_102 rfl ?_
                  refine r_bipush (pc := 104) (v := 10) dX6_figures_104 (by decide) ?_
                  refine r_idivc (pc := 106) dX6_figures_106 (by decide) ?_
                  refine r_istoreL (pc := 107) dX6_figures_107 (by rw [hnL]; decide) h (fun x35 h => ?_)
                  refine r_goto (pc := 109) (tgt := 6) dX6_figures_109 (by decide) ?_
                  exact r_mask [true, true, false, true, true, true, true, false, false] rfl (ih22 _ _ _ h)
                · refine r_iconst (pc := 86) (v := (-1)) dX6_figures_86 (by decide) ?_
                  exact r_iretH dX6_figures_87 h he
          · refine r_aload_n (pc := 27) dX6_figures_27 rfl rfl ?_
            refine fX6_7 (pc := 28) hF dX6_figures_28 (fun b36 => ?_)
            refine r_aload_n (pc := 31) dX6_figures_31 rfl rfl ?_
            refine fX6_112 (pc := 32) dX6_figures_32 (gO5 hF) h (fun x37 h => ?_)
            refine r_iald (pc := 35) dX6_figures_35 b36 h (fun x38 h => ?_)
            refine r_bipush (pc := 36) (v := 48) dX6_figures_36 (by decide) ?_
            refine r_isub (pc := 38) dX6_figures_38 ?_
            refine r_goto (pc := 39) (tgt := 43) dX6_figures_39 (by decide) ?_
            refine r_istoreL (pc := 43) dX6_figures_43 (by rw [hnL]; decide) h (fun x39 h => ?_)
            refine r_iload (pc := 45) dX6_figures_45 rfl ?_
            refine r_iload (pc := 47) dX6_figures_47 rfl ?_
            refine r_iload (pc := 49) dX6_figures_49 rfl ?_
            refine r_imul (pc := 51) dX6_figures_51 ?_
            refine r_iadd (pc := 52) dX6_figures_52 ?_
            refine r_istoreL (pc := 53) dX6_figures_53 (by rw [hnL]; decide) h (fun x40 h => ?_)
            refine r_iload (pc := 55) dX6_figures_55 rfl ?_
            refine r_i2l (pc := 57) dX6_figures_57 ?_
            refine r_lconst (pc := 58) (v := 0) dX6_figures_58 (by decide) ?_
            refine r_ldc2 (pc := 59) (v := 9) dX6_figures_59 cX6_47 ?_
            obtain ⟨m41, x42, q43, h⟩ := gCl_some h
            refine r_callS (pc := 62) [.long _, .long _, .long _] (tX6_in _ _ _ hF _ _ _ _ _ q43) ⟨rfl, rfl⟩ cd_X6_in wX6_37 nm_X6_in rfl (by rw [hRm]; decide) rfl (Nat.le_of_ble_eq_true rfl) dX6_figures_62 ?_
            refine r_if_eq (pc := 65) (tgt := 86) dX6_figures_65 (by decide) h (fun h => ?_) (fun h => ?_)
            · refine r_iconst (pc := 86) (v := (-1)) dX6_figures_86 (by decide) ?_
              exact r_iretH dX6_figures_87 h he
            · refine r_iload (pc := 68) dX6_figures_68 rfl ?_
              refine r_iload (pc := 70) dX6_figures_70 rfl ?_
              refine r_icmp_gt (pc := 72) (tgt := 86) dX6_figures_72 (by decide) h (fun h => ?_) (fun h => ?_)
              · refine r_iconst (pc := 86) (v := (-1)) dX6_figures_86 (by decide) ?_
                exact r_iretH dX6_figures_87 h he
              · refine r_iload (pc := 75) dX6_figures_75 rfl ?_
                refine r_iload (pc := 77) dX6_figures_77 rfl ?_
                refine r_iadd (pc := 79) dX6_figures_79 ?_
                refine r_iconst (pc := 80) (v := 1) dX6_figures_80 (by decide) ?_
                refine r_isub (pc := 81) dX6_figures_81 ?_
                refine r_iload_n (pc := 82) dX6_figures_82 rfl rfl ?_
                refine r_icmp_ge (pc := 83) (tgt := 88) dX6_figures_83 (by decide) h (fun h => ?_) (fun h => ?_)
                · refine r_iload (pc := 88) dX6_figures_88 rfl ?_
                  refine r_istore (pc := 90) dX6_figures_90 (by rw [hnL]; decide) rfl ?_
                  refine r_aload_n (pc := 92) dX6_figures_92 rfl rfl ?_
                  refine r_dup (pc := 93) dX6_figures_93 rfl ?_
                  refine fX6_112 (pc := 94) dX6_figures_94 (gO5 hF) h (fun x44 h => ?_)
                  refine r_iconst (pc := 97) (v := 1) dX6_figures_97 (by decide) ?_
                  refine r_iadd (pc := 98) dX6_figures_98 ?_
                  refine fX6_112p (pc := 99) dX6_figures_99 (gO5 hF) h (fun m45 h => ?_)
                  refine r_iload (pc := 102) dX6_figures_102 rfl ?_
                  refine r_bipush (pc := 104) (v := 10) dX6_figures_104 (by decide) ?_
                  refine r_idivc (pc := 106) dX6_figures_106 (by decide) ?_
                  refine r_istoreL (pc := 107) dX6_figures_107 (by rw [hnL]; decide) h (fun x46 h => ?_)
                  refine r_goto (pc := 109) (tgt := 6) dX6_figures_109 (by decide) ?_
                  exact r_mask [true, true, false, true, true, true, true, false, false] rfl (ih22 _ _ _ h)
                · refine r_iconst (pc := 86) (v := (-1)) dX6_figures_86 (by decide) ?_
                  exact r_iretH dX6_figures_87 h he
  exact r_mask [true, true, false, true, true, true, true, false, false] rfl (L23 _ _ _ _ h)
def fX6_done (p1 : Int32) (m : gM) : Option (gM × Int32) := gLt (m (5693 + 10)) fun x1 => (if p1 = 0 then gLt (upd m (5693 + 10) (x1 + 1)) fun m2 => gRz .boolean 1 (some (m2, 1)) else gLt (upd m (5693 + 10) (x1 + 0)) fun m3 => gRz .boolean 1 (some (m3, 1)))
abbrev rmX6_done : Room := { frames := 0, cells := 0, slots := 0, locals := 0 }
set_option maxHeartbeats 4000000 in
set_option maxRecDepth 100000 in
theorem tX6_done (l : Launch) (G : gX) (u : gU) (hF : gFull u) (p1 : Int32) (m : gM) (o : gM × Int32) (h : fX6_done p1 m = some o)  : gMet l G u yX6_done (.code yX6_done cX6_done 2 (some .boolean)) rmX6_done [.ref 5693, .int p1] m o.1 (some (.int o.2)) := by
  refine gMet_of (own := RX6) (k := 0) (by decide) rfl ⟨rfl, rfl⟩ (Nat.le_of_ble_eq_true rfl) [some (.ref 5693), some (.int p1)] rfl (fun Y hG hu hnL hLn hRm he => ?_)
  subst hG hu hLn
  unfold fX6_done at h
  refine r_aload_n (pc := 0) dX6_done_0 rfl rfl ?_
  refine r_dup (pc := 1) dX6_done_1 rfl ?_
  refine fX6_115 (pc := 2) dX6_done_2 (gO5 hF) h (fun x1 h => ?_)
  refine r_iload_n (pc := 5) dX6_done_5 rfl rfl ?_
  refine r_if_eq (pc := 6) (tgt := 13) dX6_done_6 (by decide) h (fun h => ?_) (fun h => ?_)
  · refine r_iconst (pc := 13) (v := 1) dX6_done_13 (by decide) ?_
    refine r_iadd (pc := 14) dX6_done_14 ?_
    refine fX6_115p (pc := 15) dX6_done_15 (gO5 hF) h (fun m2 h => ?_)
    refine r_iconst (pc := 18) (v := 1) dX6_done_18 (by decide) ?_
    exact r_zretH dX6_done_19 rfl h he
  · refine r_iconst (pc := 9) (v := 0) dX6_done_9 (by decide) ?_
    refine r_goto (pc := 10) (tgt := 14) dX6_done_10 (by decide) ?_
    refine r_iadd (pc := 14) dX6_done_14 ?_
    refine fX6_115p (pc := 15) dX6_done_15 (gO5 hF) h (fun m3 h => ?_)
    refine r_iconst (pc := 18) (v := 1) dX6_done_18 (by decide) ?_
    exact r_zretH dX6_done_19 rfl h he
def fX6_customerSign  (m : gM) : Option (gM × Int32) := gCl (fX6_figures 0 1 0 9 m) fun m1 x2 => some (m1, x2)
abbrev rmX6_customerSign : Room := { frames := 2, cells := 0, slots := 0, locals := 53 }
set_option maxHeartbeats 4000000 in
set_option maxRecDepth 100000 in
theorem tX6_customerSign (l : Launch) (G : gX) (u : gU) (hF : gFull u)  (m : gM) (o : gM × Int32) (h : fX6_customerSign  m = some o)  : gMet l G u yX6_customerSign (.code yX6_customerSign cX6_customerSign 1 (some .int)) rmX6_customerSign [.ref 5693] m o.1 (some (.int o.2)) := by
  refine gMet_of (own := RX6) (k := 0) (by decide) rfl ⟨rfl, rfl⟩ (Nat.le_of_ble_eq_true rfl) [some (.ref 5693)] rfl (fun Y hG hu hnL hLn hRm he => ?_)
  subst hG hu hLn
  unfold fX6_customerSign at h
  refine r_aload_n (pc := 0) dX6_customerSign_0 rfl rfl ?_
  refine r_iconst (pc := 1) (v := 0) dX6_customerSign_1 (by decide) ?_
  refine r_iconst (pc := 2) (v := 1) dX6_customerSign_2 (by decide) ?_
  refine r_iconst (pc := 3) (v := 0) dX6_customerSign_3 (by decide) ?_
  refine r_bipush (pc := 4) (v := 9) dX6_customerSign_4 (by decide) ?_
  obtain ⟨m1, x2, q3, h⟩ := gCl_some h
  refine r_callV (kd := 5) (pc := 6) [.int _, .int _, .int _, .int _] (tX6_figures _ _ _ hF _ _ _ _ _ _ q3) ⟨rfl, rfl⟩ cd_X6_figures wX6_118 nm_X6_figures rfl (by rw [hRm]; decide) rfl (Nat.le_of_ble_eq_true rfl) rfl (by decide) (gO5 hF) dX6_customerSign_6 ?_
  exact r_iretH dX6_customerSign_9 h he
def fX6_streetSign (p1 : Int32) (m : gM) : Option (gM × Int32) := gCl (fX6_figures p1 1 0 3 m) fun m1 x2 => some (m1, x2)
abbrev rmX6_streetSign : Room := { frames := 2, cells := 0, slots := 0, locals := 53 }
set_option maxHeartbeats 4000000 in
set_option maxRecDepth 100000 in
theorem tX6_streetSign (l : Launch) (G : gX) (u : gU) (hF : gFull u) (p1 : Int32) (m : gM) (o : gM × Int32) (h : fX6_streetSign p1 m = some o)  : gMet l G u yX6_streetSign (.code yX6_streetSign cX6_streetSign 2 (some .int)) rmX6_streetSign [.ref 5693, .int p1] m o.1 (some (.int o.2)) := by
  refine gMet_of (own := RX6) (k := 0) (by decide) rfl ⟨rfl, rfl⟩ (Nat.le_of_ble_eq_true rfl) [some (.ref 5693), some (.int p1)] rfl (fun Y hG hu hnL hLn hRm he => ?_)
  subst hG hu hLn
  unfold fX6_streetSign at h
  refine r_aload_n (pc := 0) dX6_streetSign_0 rfl rfl ?_
  refine r_iload_n (pc := 1) dX6_streetSign_1 rfl rfl ?_
  refine r_iconst (pc := 2) (v := 1) dX6_streetSign_2 (by decide) ?_
  refine r_iconst (pc := 3) (v := 0) dX6_streetSign_3 (by decide) ?_
  refine r_iconst (pc := 4) (v := 3) dX6_streetSign_4 (by decide) ?_
  obtain ⟨m1, x2, q3, h⟩ := gCl_some h
  refine r_callV (kd := 5) (pc := 5) [.int _, .int _, .int _, .int _] (tX6_figures _ _ _ hF _ _ _ _ _ _ q3) ⟨rfl, rfl⟩ cd_X6_figures wX6_118 nm_X6_figures rfl (by rw [hRm]; decide) rfl (Nat.le_of_ble_eq_true rfl) rfl (by decide) (gO5 hF) dX6_streetSign_5 ?_
  exact r_iretH dX6_streetSign_8 h he
def fX6_readCustomer (a1 a1n : Nat) (m : gM) : Option (gM × Int32) := gCl (fX6_streetSign 0 m) fun m1 x2 => gCl (fX6_figures x2 1000000 0 9999999 m1) fun m4 x5 => (if x5 = (-1) then gRz .boolean 0 (some (m4, 0)) else gRd m4 a1 a1n 0 fun x7 => (if 10 ≤ x7 then gCl (fX6_done 0 m4) fun m8 x9 => (if x9 = 0 then gRz .boolean 0 (some (m8, 0)) else gRz .boolean 1 (some (m8, 1))) else gCl (fX6_customerOn a1 a1n x2 x5 m4) fun m11 x12 => (if x12 < 0 then gCl (fX6_done 0 m11) fun m14 x15 => (if x15 = 0 then gRz .boolean 0 (some (m14, 0)) else gRz .boolean 1 (some (m14, 1))) else gCl (fX6_done 1 m11) fun m17 x18 => (if x18 = 0 then gRz .boolean 0 (some (m17, 0)) else gRz .boolean 1 (some (m17, 1))))))
abbrev rmX6_readCustomer : Room := { frames := 3, cells := 0, slots := 0, locals := 74 }
set_option maxHeartbeats 4000000 in
set_option maxRecDepth 100000 in
theorem tX6_readCustomer (l : Launch) (G : gX) (u : gU) (hF : gFull u) (a1 a1n : Nat) (m : gM) (o : gM × Int32) (h : fX6_readCustomer a1 a1n m = some o) (h1 : gIn u a1 7 a1n) : gMet l G u yX6_readCustomer (.code yX6_readCustomer cX6_readCustomer 4 (some .boolean)) rmX6_readCustomer [.ref 5693, .ref a1] m o.1 (some (.int o.2)) := by
  refine gMet_of (own := RX6) (k := 2) (by decide) rfl ⟨rfl, rfl⟩ (Nat.le_of_ble_eq_true rfl) [some (.ref 5693), some (.ref a1), none, none] rfl (fun Y hG hu hnL hLn hRm he => ?_)
  subst hG hu hLn
  unfold fX6_readCustomer at h
  refine r_aload_n (pc := 0) dX6_readCustomer_0 rfl rfl ?_
  refine r_iconst (pc := 1) (v := 0) dX6_readCustomer_1 (by decide) ?_
  obtain ⟨m1, x2, q3, h⟩ := gCl_some h
  refine r_callV (kd := 5) (pc := 2) [.int _] (tX6_streetSign _ _ _ hF _ _ _ q3) ⟨rfl, rfl⟩ cd_X6_streetSign wX6_122 nm_X6_streetSign rfl (by rw [hRm]; decide) rfl (Nat.le_of_ble_eq_true rfl) rfl (by decide) (gO5 hF) dX6_readCustomer_2 ?_
  refine r_istore_n (pc := 5) dX6_readCustomer_5 rfl (by rw [hnL]; decide) rfl ?_
  refine r_aload_n (pc := 6) dX6_readCustomer_6 rfl rfl ?_
  refine r_iload_n (pc := 7) dX6_readCustomer_7 rfl rfl ?_
  refine r_ldc (pc := 8) (v := 1000000) dX6_readCustomer_8 cX6_126 ?_
  refine r_iconst (pc := 10) (v := 0) dX6_readCustomer_10 (by decide) ?_
  refine r_ldc (pc := 11) (v := 9999999) dX6_readCustomer_11 cX6_127 ?_
  obtain ⟨m4, x5, q6, h⟩ := gCl_some h
  refine r_callV (kd := 5) (pc := 13) [.int _, .int _, .int _, .int _] (tX6_figures _ _ _ hF _ _ _ _ _ _ q6) ⟨rfl, rfl⟩ cd_X6_figures wX6_118 nm_X6_figures rfl (by rw [hRm]; decide) rfl (Nat.le_of_ble_eq_true rfl) rfl (by decide) (gO5 hF) dX6_readCustomer_13 ?_
  refine r_istore_n (pc := 16) dX6_readCustomer_16 rfl (by rw [hnL]; decide) rfl ?_
  refine r_iload_n (pc := 17) dX6_readCustomer_17 rfl rfl ?_
  refine r_iconst (pc := 18) (v := (-1)) dX6_readCustomer_18 (by decide) ?_
  refine r_icmp_eq (pc := 19) (tgt := 55) dX6_readCustomer_19 (by decide) h (fun h => ?_) (fun h => ?_)
  · refine r_iconst (pc := 55) (v := 0) dX6_readCustomer_55 (by decide) ?_
    exact r_zretH dX6_readCustomer_56 rfl h he
  · refine r_aload_n (pc := 22) dX6_readCustomer_22 rfl rfl ?_
    refine r_aload_n (pc := 23) dX6_readCustomer_23 rfl rfl ?_
    refine r_iconst (pc := 24) (v := 0) dX6_readCustomer_24 (by decide) ?_
    refine r_iald (pc := 25) dX6_readCustomer_25 h1 h (fun x7 h => ?_)
    refine r_bipush (pc := 26) (v := 10) dX6_readCustomer_26 (by decide) ?_
    refine r_icmp_ge (pc := 28) (tgt := 44) dX6_readCustomer_28 (by decide) h (fun h => ?_) (fun h => ?_)
    · refine r_iconst (pc := 44) (v := 0) dX6_readCustomer_44 (by decide) ?_
      obtain ⟨m8, x9, q10, h⟩ := gCl_some h
      refine r_callV (kd := 5) (pc := 45) [.int _] (tX6_done _ _ _ hF _ _ _ q10) ⟨rfl, rfl⟩ cd_X6_done wX6_131 nm_X6_done rfl (by rw [hRm]; decide) rfl (Nat.le_of_ble_eq_true rfl) rfl (by decide) (gO5 hF) dX6_readCustomer_45 ?_
      refine r_if_eq (pc := 48) (tgt := 55) dX6_readCustomer_48 (by decide) h (fun h => ?_) (fun h => ?_)
      · refine r_iconst (pc := 55) (v := 0) dX6_readCustomer_55 (by decide) ?_
        exact r_zretH dX6_readCustomer_56 rfl h he
      · refine r_iconst (pc := 51) (v := 1) dX6_readCustomer_51 (by decide) ?_
        refine r_goto (pc := 52) (tgt := 56) dX6_readCustomer_52 (by decide) ?_
        exact r_zretH dX6_readCustomer_56 rfl h he
    · refine r_aload_n (pc := 31) dX6_readCustomer_31 rfl rfl ?_
      refine r_iload_n (pc := 32) dX6_readCustomer_32 rfl rfl ?_
      refine r_iload_n (pc := 33) dX6_readCustomer_33 rfl rfl ?_
      obtain ⟨m11, x12, q13, h⟩ := gCl_some h
      refine r_callS (pc := 34) [.ref _, .int _, .int _] (tX6_customerOn _ _ _ hF _ _ _ _ _ _ q13 h1) ⟨rfl, rfl⟩ cd_X6_customerOn wX6_128 nm_X6_customerOn rfl (by rw [hRm]; decide) rfl (Nat.le_of_ble_eq_true rfl) dX6_readCustomer_34 ?_
      refine r_if_lt (pc := 37) (tgt := 44) dX6_readCustomer_37 (by decide) h (fun h => ?_) (fun h => ?_)
      · refine r_iconst (pc := 44) (v := 0) dX6_readCustomer_44 (by decide) ?_
        obtain ⟨m14, x15, q16, h⟩ := gCl_some h
        refine r_callV (kd := 5) (pc := 45) [.int _] (tX6_done _ _ _ hF _ _ _ q16) ⟨rfl, rfl⟩ cd_X6_done wX6_131 nm_X6_done rfl (by rw [hRm]; decide) rfl (Nat.le_of_ble_eq_true rfl) rfl (by decide) (gO5 hF) dX6_readCustomer_45 ?_
        refine r_if_eq (pc := 48) (tgt := 55) dX6_readCustomer_48 (by decide) h (fun h => ?_) (fun h => ?_)
        · refine r_iconst (pc := 55) (v := 0) dX6_readCustomer_55 (by decide) ?_
          exact r_zretH dX6_readCustomer_56 rfl h he
        · refine r_iconst (pc := 51) (v := 1) dX6_readCustomer_51 (by decide) ?_
          refine r_goto (pc := 52) (tgt := 56) dX6_readCustomer_52 (by decide) ?_
          exact r_zretH dX6_readCustomer_56 rfl h he
      · refine r_iconst (pc := 40) (v := 1) dX6_readCustomer_40 (by decide) ?_
        refine r_goto (pc := 41) (tgt := 45) dX6_readCustomer_41 (by decide) ?_
        obtain ⟨m17, x18, q19, h⟩ := gCl_some h
        refine r_callV (kd := 5) (pc := 45) [.int _] (tX6_done _ _ _ hF _ _ _ q19) ⟨rfl, rfl⟩ cd_X6_done wX6_131 nm_X6_done rfl (by rw [hRm]; decide) rfl (Nat.le_of_ble_eq_true rfl) rfl (by decide) (gO5 hF) dX6_readCustomer_45 ?_
        refine r_if_eq (pc := 48) (tgt := 55) dX6_readCustomer_48 (by decide) h (fun h => ?_) (fun h => ?_)
        · refine r_iconst (pc := 55) (v := 0) dX6_readCustomer_55 (by decide) ?_
          exact r_zretH dX6_readCustomer_56 rfl h he
        · refine r_iconst (pc := 51) (v := 1) dX6_readCustomer_51 (by decide) ?_
          refine r_goto (pc := 52) (tgt := 56) dX6_readCustomer_52 (by decide) ?_
          exact r_zretH dX6_readCustomer_56 rfl h he
def fX6_readChange (a1 a1n : Nat) (m : gM) : Option (gM × Int32) := gCl (fX6_customerSign m) fun m1 x2 => gCl (fX6_figures x2 1 0 6 m1) fun m4 x5 => gCl (fX6_figures x5 1 0 9 m4) fun m7 x8 => (if x8 = (-1) then gRz .boolean 0 (some (m7, 0)) else gCl (fX6_isCustomer a1 a1n x2 m7) fun m10 x11 => (if x11 = 0 then gCl (fX6_done 0 m10) fun m13 x14 => (if x14 = 0 then gRz .boolean 0 (some (m13, 0)) else gRz .boolean 1 (some (m13, 1))) else gCl (fX6_changeOn a1 a1n x2 x5 x8 m10) fun m16 x17 => (if x17 < 0 then gCl (fX6_done 0 m16) fun m19 x20 => (if x20 = 0 then gRz .boolean 0 (some (m19, 0)) else gRz .boolean 1 (some (m19, 1))) else gCl (fX6_done 1 m16) fun m22 x23 => (if x23 = 0 then gRz .boolean 0 (some (m22, 0)) else gRz .boolean 1 (some (m22, 1))))))
abbrev rmX6_readChange : Room := { frames := 3, cells := 0, slots := 0, locals := 73 }
set_option maxHeartbeats 4000000 in
set_option maxRecDepth 100000 in
theorem tX6_readChange (l : Launch) (G : gX) (u : gU) (hF : gFull u) (a1 a1n : Nat) (m : gM) (o : gM × Int32) (h : fX6_readChange a1 a1n m = some o) (h1 : gIn u a1 7 a1n) : gMet l G u yX6_readChange (.code yX6_readChange cX6_readChange 5 (some .boolean)) rmX6_readChange [.ref 5693, .ref a1] m o.1 (some (.int o.2)) := by
  refine gMet_of (own := RX6) (k := 3) (by decide) rfl ⟨rfl, rfl⟩ (Nat.le_of_ble_eq_true rfl) [some (.ref 5693), some (.ref a1), none, none, none] rfl (fun Y hG hu hnL hLn hRm he => ?_)
  subst hG hu hLn
  unfold fX6_readChange at h
  refine r_aload_n (pc := 0) dX6_readChange_0 rfl rfl ?_
  obtain ⟨m1, x2, q3, h⟩ := gCl_some h
  refine r_callV (kd := 5) (pc := 1) [] (tX6_customerSign _ _ _ hF  _ _ q3) ⟨rfl, rfl⟩ cd_X6_customerSign wX6_135 nm_X6_customerSign rfl (by rw [hRm]; decide) rfl (Nat.le_of_ble_eq_true rfl) rfl (by decide) (gO5 hF) dX6_readChange_1 ?_
  refine r_istore_n (pc := 4) dX6_readChange_4 rfl (by rw [hnL]; decide) rfl ?_
  refine r_aload_n (pc := 5) dX6_readChange_5 rfl rfl ?_
  refine r_iload_n (pc := 6) dX6_readChange_6 rfl rfl ?_
  refine r_iconst (pc := 7) (v := 1) dX6_readChange_7 (by decide) ?_
  refine r_iconst (pc := 8) (v := 0) dX6_readChange_8 (by decide) ?_
  refine r_bipush (pc := 9) (v := 6) dX6_readChange_9 (by decide) ?_
  obtain ⟨m4, x5, q6, h⟩ := gCl_some h
  refine r_callV (kd := 5) (pc := 11) [.int _, .int _, .int _, .int _] (tX6_figures _ _ _ hF _ _ _ _ _ _ q6) ⟨rfl, rfl⟩ cd_X6_figures wX6_118 nm_X6_figures rfl (by rw [hRm]; decide) rfl (Nat.le_of_ble_eq_true rfl) rfl (by decide) (gO5 hF) dX6_readChange_11 ?_
  refine r_istore_n (pc := 14) dX6_readChange_14 rfl (by rw [hnL]; decide) rfl ?_
  refine r_aload_n (pc := 15) dX6_readChange_15 rfl rfl ?_
  refine r_iload_n (pc := 16) dX6_readChange_16 rfl rfl ?_
  refine r_iconst (pc := 17) (v := 1) dX6_readChange_17 (by decide) ?_
  refine r_iconst (pc := 18) (v := 0) dX6_readChange_18 (by decide) ?_
  refine r_bipush (pc := 19) (v := 9) dX6_readChange_19 (by decide) ?_
  obtain ⟨m7, x8, q9, h⟩ := gCl_some h
  refine r_callV (kd := 5) (pc := 21) [.int _, .int _, .int _, .int _] (tX6_figures _ _ _ hF _ _ _ _ _ _ q9) ⟨rfl, rfl⟩ cd_X6_figures wX6_118 nm_X6_figures rfl (by rw [hRm]; decide) rfl (Nat.le_of_ble_eq_true rfl) rfl (by decide) (gO5 hF) dX6_readChange_21 ?_
  refine r_istore (pc := 24) dX6_readChange_24 (by rw [hnL]; decide) rfl ?_
  refine r_iload (pc := 26) dX6_readChange_26 rfl ?_
  refine r_iconst (pc := 28) (v := (-1)) dX6_readChange_28 (by decide) ?_
  refine r_icmp_eq (pc := 29) (tgt := 67) dX6_readChange_29 (by decide) h (fun h => ?_) (fun h => ?_)
  · refine r_iconst (pc := 67) (v := 0) dX6_readChange_67 (by decide) ?_
    exact r_zretH dX6_readChange_68 rfl h he
  · refine r_aload_n (pc := 32) dX6_readChange_32 rfl rfl ?_
    refine r_aload_n (pc := 33) dX6_readChange_33 rfl rfl ?_
    refine r_iload_n (pc := 34) dX6_readChange_34 rfl rfl ?_
    obtain ⟨m10, x11, q12, h⟩ := gCl_some h
    refine r_callS (pc := 35) [.ref _, .int _] (tX6_isCustomer _ _ _ hF _ _ _ _ _ q12 h1) ⟨rfl, rfl⟩ cd_X6_isCustomer wX6_139 nm_X6_isCustomer rfl (by rw [hRm]; decide) rfl (Nat.le_of_ble_eq_true rfl) dX6_readChange_35 ?_
    refine r_if_eq (pc := 38) (tgt := 56) dX6_readChange_38 (by decide) h (fun h => ?_) (fun h => ?_)
    · refine r_iconst (pc := 56) (v := 0) dX6_readChange_56 (by decide) ?_
      obtain ⟨m13, x14, q15, h⟩ := gCl_some h
      refine r_callV (kd := 5) (pc := 57) [.int _] (tX6_done _ _ _ hF _ _ _ q15) ⟨rfl, rfl⟩ cd_X6_done wX6_131 nm_X6_done rfl (by rw [hRm]; decide) rfl (Nat.le_of_ble_eq_true rfl) rfl (by decide) (gO5 hF) dX6_readChange_57 ?_
      refine r_if_eq (pc := 60) (tgt := 67) dX6_readChange_60 (by decide) h (fun h => ?_) (fun h => ?_)
      · refine r_iconst (pc := 67) (v := 0) dX6_readChange_67 (by decide) ?_
        exact r_zretH dX6_readChange_68 rfl h he
      · refine r_iconst (pc := 63) (v := 1) dX6_readChange_63 (by decide) ?_
        refine r_goto (pc := 64) (tgt := 68) dX6_readChange_64 (by decide) ?_
        exact r_zretH dX6_readChange_68 rfl h he
    · refine r_aload_n (pc := 41) dX6_readChange_41 rfl rfl ?_
      refine r_iload_n (pc := 42) dX6_readChange_42 rfl rfl ?_
      refine r_iload_n (pc := 43) dX6_readChange_43 rfl rfl ?_
      refine r_iload (pc := 44) dX6_readChange_44 rfl ?_
      obtain ⟨m16, x17, q18, h⟩ := gCl_some h
      refine r_callS (pc := 46) [.ref _, .int _, .int _, .int _] (tX6_changeOn _ _ _ hF _ _ _ _ _ _ _ q18 h1) ⟨rfl, rfl⟩ cd_X6_changeOn wX6_143 nm_X6_changeOn rfl (by rw [hRm]; decide) rfl (Nat.le_of_ble_eq_true rfl) dX6_readChange_46 ?_
      refine r_if_lt (pc := 49) (tgt := 56) dX6_readChange_49 (by decide) h (fun h => ?_) (fun h => ?_)
      · refine r_iconst (pc := 56) (v := 0) dX6_readChange_56 (by decide) ?_
        obtain ⟨m19, x20, q21, h⟩ := gCl_some h
        refine r_callV (kd := 5) (pc := 57) [.int _] (tX6_done _ _ _ hF _ _ _ q21) ⟨rfl, rfl⟩ cd_X6_done wX6_131 nm_X6_done rfl (by rw [hRm]; decide) rfl (Nat.le_of_ble_eq_true rfl) rfl (by decide) (gO5 hF) dX6_readChange_57 ?_
        refine r_if_eq (pc := 60) (tgt := 67) dX6_readChange_60 (by decide) h (fun h => ?_) (fun h => ?_)
        · refine r_iconst (pc := 67) (v := 0) dX6_readChange_67 (by decide) ?_
          exact r_zretH dX6_readChange_68 rfl h he
        · refine r_iconst (pc := 63) (v := 1) dX6_readChange_63 (by decide) ?_
          refine r_goto (pc := 64) (tgt := 68) dX6_readChange_64 (by decide) ?_
          exact r_zretH dX6_readChange_68 rfl h he
      · refine r_iconst (pc := 52) (v := 1) dX6_readChange_52 (by decide) ?_
        refine r_goto (pc := 53) (tgt := 57) dX6_readChange_53 (by decide) ?_
        obtain ⟨m22, x23, q24, h⟩ := gCl_some h
        refine r_callV (kd := 5) (pc := 57) [.int _] (tX6_done _ _ _ hF _ _ _ q24) ⟨rfl, rfl⟩ cd_X6_done wX6_131 nm_X6_done rfl (by rw [hRm]; decide) rfl (Nat.le_of_ble_eq_true rfl) rfl (by decide) (gO5 hF) dX6_readChange_57 ?_
        refine r_if_eq (pc := 60) (tgt := 67) dX6_readChange_60 (by decide) h (fun h => ?_) (fun h => ?_)
        · refine r_iconst (pc := 67) (v := 0) dX6_readChange_67 (by decide) ?_
          exact r_zretH dX6_readChange_68 rfl h he
        · refine r_iconst (pc := 63) (v := 1) dX6_readChange_63 (by decide) ?_
          refine r_goto (pc := 64) (tgt := 68) dX6_readChange_64 (by decide) ?_
          exact r_zretH dX6_readChange_68 rfl h he
def fX6_readHoliday (a1 a1n : Nat) (m : gM) : Option (gM × Int32) := gCl (fX6_customerSign m) fun m1 x2 => gCl (fX6_figures x2 10 0 99 m1) fun m4 x5 => gCl (fX6_figures x5 10 0 99 m4) fun m7 x8 => (if x8 = (-1) then gRz .boolean 0 (some (m7, 0)) else gCl (fX6_isCustomer a1 a1n x2 m7) fun m10 x11 => (if x11 = 0 then gCl (fX6_done 0 m10) fun m13 x14 => (if x14 = 0 then gRz .boolean 0 (some (m13, 0)) else gRz .boolean 1 (some (m13, 1))) else (if x8 < x5 then gCl (fX6_done 0 m10) fun m16 x17 => (if x17 = 0 then gRz .boolean 0 (some (m16, 0)) else gRz .boolean 1 (some (m16, 1))) else gCl (fX6_of a1 a1n x2 14 m10) fun m19 x20 => (if 3 ≤ x20 then gCl (fX6_done 0 m19) fun m22 x23 => (if x23 = 0 then gRz .boolean 0 (some (m22, 0)) else gRz .boolean 1 (some (m22, 1))) else gCl (fX6_holidayOn a1 a1n x2 x5 x8 m19) fun m25 x26 => (if x26 ≤ 0 then gCl (fX6_done 0 m25) fun m28 x29 => (if x29 = 0 then gRz .boolean 0 (some (m28, 0)) else gRz .boolean 1 (some (m28, 1))) else gCl (fX6_done 1 m25) fun m31 x32 => (if x32 = 0 then gRz .boolean 0 (some (m31, 0)) else gRz .boolean 1 (some (m31, 1))))))))
abbrev rmX6_readHoliday : Room := { frames := 3, cells := 0, slots := 0, locals := 73 }
set_option maxHeartbeats 4000000 in
set_option maxRecDepth 100000 in
theorem tX6_readHoliday (l : Launch) (G : gX) (u : gU) (hF : gFull u) (a1 a1n : Nat) (m : gM) (o : gM × Int32) (h : fX6_readHoliday a1 a1n m = some o) (h1 : gIn u a1 7 a1n) : gMet l G u yX6_readHoliday (.code yX6_readHoliday cX6_readHoliday 5 (some .boolean)) rmX6_readHoliday [.ref 5693, .ref a1] m o.1 (some (.int o.2)) := by
  refine gMet_of (own := RX6) (k := 3) (by decide) rfl ⟨rfl, rfl⟩ (Nat.le_of_ble_eq_true rfl) [some (.ref 5693), some (.ref a1), none, none, none] rfl (fun Y hG hu hnL hLn hRm he => ?_)
  subst hG hu hLn
  unfold fX6_readHoliday at h
  refine r_aload_n (pc := 0) dX6_readHoliday_0 rfl rfl ?_
  obtain ⟨m1, x2, q3, h⟩ := gCl_some h
  refine r_callV (kd := 5) (pc := 1) [] (tX6_customerSign _ _ _ hF  _ _ q3) ⟨rfl, rfl⟩ cd_X6_customerSign wX6_135 nm_X6_customerSign rfl (by rw [hRm]; decide) rfl (Nat.le_of_ble_eq_true rfl) rfl (by decide) (gO5 hF) dX6_readHoliday_1 ?_
  refine r_istore_n (pc := 4) dX6_readHoliday_4 rfl (by rw [hnL]; decide) rfl ?_
  refine r_aload_n (pc := 5) dX6_readHoliday_5 rfl rfl ?_
  refine r_iload_n (pc := 6) dX6_readHoliday_6 rfl rfl ?_
  refine r_bipush (pc := 7) (v := 10) dX6_readHoliday_7 (by decide) ?_
  refine r_iconst (pc := 9) (v := 0) dX6_readHoliday_9 (by decide) ?_
  refine r_bipush (pc := 10) (v := 99) dX6_readHoliday_10 (by decide) ?_
  obtain ⟨m4, x5, q6, h⟩ := gCl_some h
  refine r_callV (kd := 5) (pc := 12) [.int _, .int _, .int _, .int _] (tX6_figures _ _ _ hF _ _ _ _ _ _ q6) ⟨rfl, rfl⟩ cd_X6_figures wX6_118 nm_X6_figures rfl (by rw [hRm]; decide) rfl (Nat.le_of_ble_eq_true rfl) rfl (by decide) (gO5 hF) dX6_readHoliday_12 ?_
  refine r_istore_n (pc := 15) dX6_readHoliday_15 rfl (by rw [hnL]; decide) rfl ?_
  refine r_aload_n (pc := 16) dX6_readHoliday_16 rfl rfl ?_
  refine r_iload_n (pc := 17) dX6_readHoliday_17 rfl rfl ?_
  refine r_bipush (pc := 18) (v := 10) dX6_readHoliday_18 (by decide) ?_
  refine r_iconst (pc := 20) (v := 0) dX6_readHoliday_20 (by decide) ?_
  refine r_bipush (pc := 21) (v := 99) dX6_readHoliday_21 (by decide) ?_
  obtain ⟨m7, x8, q9, h⟩ := gCl_some h
  refine r_callV (kd := 5) (pc := 23) [.int _, .int _, .int _, .int _] (tX6_figures _ _ _ hF _ _ _ _ _ _ q9) ⟨rfl, rfl⟩ cd_X6_figures wX6_118 nm_X6_figures rfl (by rw [hRm]; decide) rfl (Nat.le_of_ble_eq_true rfl) rfl (by decide) (gO5 hF) dX6_readHoliday_23 ?_
  refine r_istore (pc := 26) dX6_readHoliday_26 (by rw [hnL]; decide) rfl ?_
  refine r_iload (pc := 28) dX6_readHoliday_28 rfl ?_
  refine r_iconst (pc := 30) (v := (-1)) dX6_readHoliday_30 (by decide) ?_
  refine r_icmp_eq (pc := 31) (tgt := 86) dX6_readHoliday_31 (by decide) h (fun h => ?_) (fun h => ?_)
  · refine r_iconst (pc := 86) (v := 0) dX6_readHoliday_86 (by decide) ?_
    exact r_zretH dX6_readHoliday_87 rfl h he
  · refine r_aload_n (pc := 34) dX6_readHoliday_34 rfl rfl ?_
    refine r_aload_n (pc := 35) dX6_readHoliday_35 rfl rfl ?_
    refine r_iload_n (pc := 36) dX6_readHoliday_36 rfl rfl ?_
    obtain ⟨m10, x11, q12, h⟩ := gCl_some h
    refine r_callS (pc := 37) [.ref _, .int _] (tX6_isCustomer _ _ _ hF _ _ _ _ _ q12 h1) ⟨rfl, rfl⟩ cd_X6_isCustomer wX6_139 nm_X6_isCustomer rfl (by rw [hRm]; decide) rfl (Nat.le_of_ble_eq_true rfl) dX6_readHoliday_37 ?_
    refine r_if_eq (pc := 40) (tgt := 75) dX6_readHoliday_40 (by decide) h (fun h => ?_) (fun h => ?_)
    · refine r_iconst (pc := 75) (v := 0) dX6_readHoliday_75 (by decide) ?_
      obtain ⟨m13, x14, q15, h⟩ := gCl_some h
      refine r_callV (kd := 5) (pc := 76) [.int _] (tX6_done _ _ _ hF _ _ _ q15) ⟨rfl, rfl⟩ cd_X6_done wX6_131 nm_X6_done rfl (by rw [hRm]; decide) rfl (Nat.le_of_ble_eq_true rfl) rfl (by decide) (gO5 hF) dX6_readHoliday_76 ?_
      refine r_if_eq (pc := 79) (tgt := 86) dX6_readHoliday_79 (by decide) h (fun h => ?_) (fun h => ?_)
      · refine r_iconst (pc := 86) (v := 0) dX6_readHoliday_86 (by decide) ?_
        exact r_zretH dX6_readHoliday_87 rfl h he
      · refine r_iconst (pc := 82) (v := 1) dX6_readHoliday_82 (by decide) ?_
        refine r_goto (pc := 83) (tgt := 87) dX6_readHoliday_83 (by decide) ?_
        exact r_zretH dX6_readHoliday_87 rfl h he
    · refine r_iload_n (pc := 43) dX6_readHoliday_43 rfl rfl ?_
      refine r_iload (pc := 44) dX6_readHoliday_44 rfl ?_
      refine r_icmp_gt (pc := 46) (tgt := 75) dX6_readHoliday_46 (by decide) h (fun h => ?_) (fun h => ?_)
      · refine r_iconst (pc := 75) (v := 0) dX6_readHoliday_75 (by decide) ?_
        obtain ⟨m16, x17, q18, h⟩ := gCl_some h
        refine r_callV (kd := 5) (pc := 76) [.int _] (tX6_done _ _ _ hF _ _ _ q18) ⟨rfl, rfl⟩ cd_X6_done wX6_131 nm_X6_done rfl (by rw [hRm]; decide) rfl (Nat.le_of_ble_eq_true rfl) rfl (by decide) (gO5 hF) dX6_readHoliday_76 ?_
        refine r_if_eq (pc := 79) (tgt := 86) dX6_readHoliday_79 (by decide) h (fun h => ?_) (fun h => ?_)
        · refine r_iconst (pc := 86) (v := 0) dX6_readHoliday_86 (by decide) ?_
          exact r_zretH dX6_readHoliday_87 rfl h he
        · refine r_iconst (pc := 82) (v := 1) dX6_readHoliday_82 (by decide) ?_
          refine r_goto (pc := 83) (tgt := 87) dX6_readHoliday_83 (by decide) ?_
          exact r_zretH dX6_readHoliday_87 rfl h he
      · refine r_aload_n (pc := 49) dX6_readHoliday_49 rfl rfl ?_
        refine r_iload_n (pc := 50) dX6_readHoliday_50 rfl rfl ?_
        refine r_bipush (pc := 51) (v := 14) dX6_readHoliday_51 (by decide) ?_
        obtain ⟨m19, x20, q21, h⟩ := gCl_some h
        refine r_callS (pc := 53) [.ref _, .int _, .int _] (tX6_of _ _ _ hF _ _ _ _ _ _ q21 h1) ⟨rfl, rfl⟩ cd_X6_of wX6_53 nm_X6_of rfl (by rw [hRm]; decide) rfl (Nat.le_of_ble_eq_true rfl) dX6_readHoliday_53 ?_
        refine r_iconst (pc := 56) (v := 3) dX6_readHoliday_56 (by decide) ?_
        refine r_icmp_ge (pc := 57) (tgt := 75) dX6_readHoliday_57 (by decide) h (fun h => ?_) (fun h => ?_)
        · refine r_iconst (pc := 75) (v := 0) dX6_readHoliday_75 (by decide) ?_
          obtain ⟨m22, x23, q24, h⟩ := gCl_some h
          refine r_callV (kd := 5) (pc := 76) [.int _] (tX6_done _ _ _ hF _ _ _ q24) ⟨rfl, rfl⟩ cd_X6_done wX6_131 nm_X6_done rfl (by rw [hRm]; decide) rfl (Nat.le_of_ble_eq_true rfl) rfl (by decide) (gO5 hF) dX6_readHoliday_76 ?_
          refine r_if_eq (pc := 79) (tgt := 86) dX6_readHoliday_79 (by decide) h (fun h => ?_) (fun h => ?_)
          · refine r_iconst (pc := 86) (v := 0) dX6_readHoliday_86 (by decide) ?_
            exact r_zretH dX6_readHoliday_87 rfl h he
          · refine r_iconst (pc := 82) (v := 1) dX6_readHoliday_82 (by decide) ?_
            refine r_goto (pc := 83) (tgt := 87) dX6_readHoliday_83 (by decide) ?_
            exact r_zretH dX6_readHoliday_87 rfl h he
        · refine r_aload_n (pc := 60) dX6_readHoliday_60 rfl rfl ?_
          refine r_iload_n (pc := 61) dX6_readHoliday_61 rfl rfl ?_
          refine r_iload_n (pc := 62) dX6_readHoliday_62 rfl rfl ?_
          refine r_iload (pc := 63) dX6_readHoliday_63 rfl ?_
          obtain ⟨m25, x26, q27, h⟩ := gCl_some h
          refine r_callS (pc := 65) [.ref _, .int _, .int _, .int _] (tX6_holidayOn _ _ _ hF _ _ _ _ _ _ _ q27 h1) ⟨rfl, rfl⟩ cd_X6_holidayOn wX6_146 nm_X6_holidayOn rfl (by rw [hRm]; decide) rfl (Nat.le_of_ble_eq_true rfl) dX6_readHoliday_65 ?_
          refine r_if_le (pc := 68) (tgt := 75) dX6_readHoliday_68 (by decide) h (fun h => ?_) (fun h => ?_)
          · refine r_iconst (pc := 75) (v := 0) dX6_readHoliday_75 (by decide) ?_
            obtain ⟨m28, x29, q30, h⟩ := gCl_some h
            refine r_callV (kd := 5) (pc := 76) [.int _] (tX6_done _ _ _ hF _ _ _ q30) ⟨rfl, rfl⟩ cd_X6_done wX6_131 nm_X6_done rfl (by rw [hRm]; decide) rfl (Nat.le_of_ble_eq_true rfl) rfl (by decide) (gO5 hF) dX6_readHoliday_76 ?_
            refine r_if_eq (pc := 79) (tgt := 86) dX6_readHoliday_79 (by decide) h (fun h => ?_) (fun h => ?_)
            · refine r_iconst (pc := 86) (v := 0) dX6_readHoliday_86 (by decide) ?_
              exact r_zretH dX6_readHoliday_87 rfl h he
            · refine r_iconst (pc := 82) (v := 1) dX6_readHoliday_82 (by decide) ?_
              refine r_goto (pc := 83) (tgt := 87) dX6_readHoliday_83 (by decide) ?_
              exact r_zretH dX6_readHoliday_87 rfl h he
          · refine r_iconst (pc := 71) (v := 1) dX6_readHoliday_71 (by decide) ?_
            refine r_goto (pc := 72) (tgt := 76) dX6_readHoliday_72 (by decide) ?_
            obtain ⟨m31, x32, q33, h⟩ := gCl_some h
            refine r_callV (kd := 5) (pc := 76) [.int _] (tX6_done _ _ _ hF _ _ _ q33) ⟨rfl, rfl⟩ cd_X6_done wX6_131 nm_X6_done rfl (by rw [hRm]; decide) rfl (Nat.le_of_ble_eq_true rfl) rfl (by decide) (gO5 hF) dX6_readHoliday_76 ?_
            refine r_if_eq (pc := 79) (tgt := 86) dX6_readHoliday_79 (by decide) h (fun h => ?_) (fun h => ?_)
            · refine r_iconst (pc := 86) (v := 0) dX6_readHoliday_86 (by decide) ?_
              exact r_zretH dX6_readHoliday_87 rfl h he
            · refine r_iconst (pc := 82) (v := 1) dX6_readHoliday_82 (by decide) ?_
              refine r_goto (pc := 83) (tgt := 87) dX6_readHoliday_83 (by decide) ?_
              exact r_zretH dX6_readHoliday_87 rfl h he
def fX6_readClose (a1 a1n : Nat) (m : gM) : Option (gM × Int32) := gCl (fX6_streetSign 0 m) fun m1 x2 => gCl (fX6_figures x2 1 0 6 m1) fun m4 x5 => (if x5 = (-1) then gRz .boolean 0 (some (m4, 0)) else gLt (m4 (5693 + 9)) fun x7 => gLt (m4 (5693 + 2)) fun x8 => (if x7 = x8 then gRz .boolean 0 (some (m4, 0)) else gLt (m4 (5693 + 9)) fun x10 => gRd m4 5704 120 x10 fun x11 => (if x11 = 43 then gLt (m4 (5693 + 9)) fun x13 => gRd m4 5704 120 x13 fun x14 => (if x14 = 43 then gLt (m4 (5693 + 9)) fun x26 => gLt (upd m4 (5693 + 9) (x26 + 1)) fun m27 => gCl (fX6_closeOn a1 a1n x2 x5 1 m27) fun m28 x29 => (if x29 < 0 then gCl (fX6_done 0 m28) fun m31 x32 => gRz .boolean x32 (some (m31, x32)) else gCl (fX6_done 1 m28) fun m34 x35 => gRz .boolean x35 (some (m34, x35))) else gLt (m4 (5693 + 9)) fun x15 => gLt (upd m4 (5693 + 9) (x15 + 1)) fun m16 => gCl (fX6_closeOn a1 a1n x2 x5 0 m16) fun m17 x18 => (if x18 < 0 then gCl (fX6_done 0 m17) fun m20 x21 => gRz .boolean x21 (some (m20, x21)) else gCl (fX6_done 1 m17) fun m23 x24 => gRz .boolean x24 (some (m23, x24)))) else gLt (m4 (5693 + 9)) fun x38 => gRd m4 5704 120 x38 fun x39 => (if x39 = 45 then gLt (m4 (5693 + 9)) fun x41 => gRd m4 5704 120 x41 fun x42 => (if x42 = 43 then gLt (m4 (5693 + 9)) fun x54 => gLt (upd m4 (5693 + 9) (x54 + 1)) fun m55 => gCl (fX6_closeOn a1 a1n x2 x5 1 m55) fun m56 x57 => (if x57 < 0 then gCl (fX6_done 0 m56) fun m59 x60 => gRz .boolean x60 (some (m59, x60)) else gCl (fX6_done 1 m56) fun m62 x63 => gRz .boolean x63 (some (m62, x63))) else gLt (m4 (5693 + 9)) fun x43 => gLt (upd m4 (5693 + 9) (x43 + 1)) fun m44 => gCl (fX6_closeOn a1 a1n x2 x5 0 m44) fun m45 x46 => (if x46 < 0 then gCl (fX6_done 0 m45) fun m48 x49 => gRz .boolean x49 (some (m48, x49)) else gCl (fX6_done 1 m45) fun m51 x52 => gRz .boolean x52 (some (m51, x52)))) else gRz .boolean 0 (some (m4, 0))))))
abbrev rmX6_readClose : Room := { frames := 3, cells := 0, slots := 0, locals := 74 }
set_option maxHeartbeats 4000000 in
set_option maxRecDepth 100000 in
theorem tX6_readClose (l : Launch) (G : gX) (u : gU) (hF : gFull u) (a1 a1n : Nat) (m : gM) (o : gM × Int32) (h : fX6_readClose a1 a1n m = some o) (h1 : gIn u a1 7 a1n) : gMet l G u yX6_readClose (.code yX6_readClose cX6_readClose 5 (some .boolean)) rmX6_readClose [.ref 5693, .ref a1] m o.1 (some (.int o.2)) := by
  refine gMet_of (own := RX6) (k := 3) (by decide) rfl ⟨rfl, rfl⟩ (Nat.le_of_ble_eq_true rfl) [some (.ref 5693), some (.ref a1), none, none, none] rfl (fun Y hG hu hnL hLn hRm he => ?_)
  subst hG hu hLn
  unfold fX6_readClose at h
  refine r_aload_n (pc := 0) dX6_readClose_0 rfl rfl ?_
  refine r_iconst (pc := 1) (v := 0) dX6_readClose_1 (by decide) ?_
  obtain ⟨m1, x2, q3, h⟩ := gCl_some h
  refine r_callV (kd := 5) (pc := 2) [.int _] (tX6_streetSign _ _ _ hF _ _ _ q3) ⟨rfl, rfl⟩ cd_X6_streetSign wX6_122 nm_X6_streetSign rfl (by rw [hRm]; decide) rfl (Nat.le_of_ble_eq_true rfl) rfl (by decide) (gO5 hF) dX6_readClose_2 ?_
  refine r_istore_n (pc := 5) dX6_readClose_5 rfl (by rw [hnL]; decide) rfl ?_
  refine r_aload_n (pc := 6) dX6_readClose_6 rfl rfl ?_
  refine r_iload_n (pc := 7) dX6_readClose_7 rfl rfl ?_
  refine r_iconst (pc := 8) (v := 1) dX6_readClose_8 (by decide) ?_
  refine r_iconst (pc := 9) (v := 0) dX6_readClose_9 (by decide) ?_
  refine r_bipush (pc := 10) (v := 6) dX6_readClose_10 (by decide) ?_
  obtain ⟨m4, x5, q6, h⟩ := gCl_some h
  refine r_callV (kd := 5) (pc := 12) [.int _, .int _, .int _, .int _] (tX6_figures _ _ _ hF _ _ _ _ _ _ q6) ⟨rfl, rfl⟩ cd_X6_figures wX6_118 nm_X6_figures rfl (by rw [hRm]; decide) rfl (Nat.le_of_ble_eq_true rfl) rfl (by decide) (gO5 hF) dX6_readClose_12 ?_
  refine r_istore_n (pc := 15) dX6_readClose_15 rfl (by rw [hnL]; decide) rfl ?_
  refine r_iload_n (pc := 16) dX6_readClose_16 rfl rfl ?_
  refine r_iconst (pc := 17) (v := (-1)) dX6_readClose_17 (by decide) ?_
  refine r_icmp_eq (pc := 18) (tgt := 60) dX6_readClose_18 (by decide) h (fun h => ?_) (fun h => ?_)
  · refine r_iconst (pc := 60) (v := 0) dX6_readClose_60 (by decide) ?_
    exact r_zretH dX6_readClose_61 rfl h he
  · refine r_aload_n (pc := 21) dX6_readClose_21 rfl rfl ?_
    refine fX6_112 (pc := 22) dX6_readClose_22 (gO5 hF) h (fun x7 h => ?_)
    refine r_aload_n (pc := 25) dX6_readClose_25 rfl rfl ?_
    refine fX6_105 (pc := 26) dX6_readClose_26 (gO5 hF) h (fun x8 h => ?_)
    refine r_icmp_eq (pc := 29) (tgt := 60) dX6_readClose_29 (by decide) h (fun h => ?_) (fun h => ?_)
    · refine r_iconst (pc := 60) (v := 0) dX6_readClose_60 (by decide) ?_
      exact r_zretH dX6_readClose_61 rfl h he
    · refine r_aload_n (pc := 32) dX6_readClose_32 rfl rfl ?_
      refine fX6_7 (pc := 33) hF dX6_readClose_33 (fun b9 => ?_)
      refine r_aload_n (pc := 36) dX6_readClose_36 rfl rfl ?_
      refine fX6_112 (pc := 37) dX6_readClose_37 (gO5 hF) h (fun x10 h => ?_)
      refine r_iald (pc := 40) dX6_readClose_40 b9 h (fun x11 h => ?_)
      refine r_bipush (pc := 41) (v := 43) dX6_readClose_41 (by decide) ?_
      refine r_icmp_eq (pc := 43) (tgt := 62) dX6_readClose_43 (by decide) h (fun h => ?_) (fun h => ?_)
      · refine r_aload_n (pc := 62) dX6_readClose_62 rfl rfl ?_
        refine fX6_7 (pc := 63) hF dX6_readClose_63 (fun b12 => ?_)
        refine r_aload_n (pc := 66) dX6_readClose_66 rfl rfl ?_
        refine fX6_112 (pc := 67) dX6_readClose_67 (gO5 hF) h (fun x13 h => ?_)
        refine r_iald (pc := 70) dX6_readClose_70 b12 h (fun x14 h => ?_)
        refine r_bipush (pc := 71) (v := 43) dX6_readClose_71 (by decide) ?_
        refine r_icmp_ne (pc := 73) (tgt := 80) dX6_readClose_73 (by decide) h (fun h => ?_) (fun h => ?_)
        · refine r_iconst (pc := 80) (v := 0) dX6_readClose_80 (by decide) ?_
          refine r_istore (pc := 81) dX6_readClose_81 (by rw [hnL]; decide) rfl ?_
          refine r_aload_n (pc := 83) dX6_readClose_83 rfl rfl ?_
          refine r_dup (pc := 84) dX6_readClose_84 rfl ?_
          refine fX6_112 (pc := 85) dX6_readClose_85 (gO5 hF) h (fun x15 h => ?_)
          refine r_iconst (pc := 88) (v := 1) dX6_readClose_88 (by decide) ?_
          refine r_iadd (pc := 89) dX6_readClose_89 ?_
          refine fX6_112p (pc := 90) dX6_readClose_90 (gO5 hF) h (fun m16 h => ?_)
          refine r_aload_n (pc := 93) dX6_readClose_93 rfl rfl ?_
          refine r_aload_n (pc := 94) dX6_readClose_94 rfl rfl ?_
          refine r_iload_n (pc := 95) dX6_readClose_95 rfl rfl ?_
          refine r_iload_n (pc := 96) dX6_readClose_96 rfl rfl ?_
          refine r_iload (pc := 97) dX6_readClose_97 rfl ?_
          obtain ⟨m17, x18, q19, h⟩ := gCl_some h
          refine r_callS (pc := 99) [.ref _, .int _, .int _, .int _] (tX6_closeOn _ _ _ hF _ _ _ _ _ _ _ q19 h1) ⟨rfl, rfl⟩ cd_X6_closeOn wX6_149 nm_X6_closeOn rfl (by rw [hRm]; decide) rfl (Nat.le_of_ble_eq_true rfl) dX6_readClose_99 ?_
          refine r_if_lt (pc := 102) (tgt := 109) dX6_readClose_102 (by decide) h (fun h => ?_) (fun h => ?_)
          · refine r_iconst (pc := 109) (v := 0) dX6_readClose_109 (by decide) ?_
            obtain ⟨m20, x21, q22, h⟩ := gCl_some h
            refine r_callV (kd := 5) (pc := 110) [.int _] (tX6_done _ _ _ hF _ _ _ q22) ⟨rfl, rfl⟩ cd_X6_done wX6_131 nm_X6_done rfl (by rw [hRm]; decide) rfl (Nat.le_of_ble_eq_true rfl) rfl (by decide) (gO5 hF) dX6_readClose_110 ?_
            exact r_zretH dX6_readClose_113 rfl h he
          · refine r_iconst (pc := 105) (v := 1) dX6_readClose_105 (by decide) ?_
            refine r_goto (pc := 106) (tgt := 110) dX6_readClose_106 (by decide) ?_
            obtain ⟨m23, x24, q25, h⟩ := gCl_some h
            refine r_callV (kd := 5) (pc := 110) [.int _] (tX6_done _ _ _ hF _ _ _ q25) ⟨rfl, rfl⟩ cd_X6_done wX6_131 nm_X6_done rfl (by rw [hRm]; decide) rfl (Nat.le_of_ble_eq_true rfl) rfl (by decide) (gO5 hF) dX6_readClose_110 ?_
            exact r_zretH dX6_readClose_113 rfl h he
        · refine r_iconst (pc := 76) (v := 1) dX6_readClose_76 (by decide) ?_
          refine r_goto (pc := 77) (tgt := 81) dX6_readClose_77 (by decide) ?_
          refine r_istore (pc := 81) dX6_readClose_81 (by rw [hnL]; decide) rfl ?_
          refine r_aload_n (pc := 83) dX6_readClose_83 rfl rfl ?_
          refine r_dup (pc := 84) dX6_readClose_84 rfl ?_
          refine fX6_112 (pc := 85) dX6_readClose_85 (gO5 hF) h (fun x26 h => ?_)
          refine r_iconst (pc := 88) (v := 1) dX6_readClose_88 (by decide) ?_
          refine r_iadd (pc := 89) dX6_readClose_89 ?_
          refine fX6_112p (pc := 90) dX6_readClose_90 (gO5 hF) h (fun m27 h => ?_)
          refine r_aload_n (pc := 93) dX6_readClose_93 rfl rfl ?_
          refine r_aload_n (pc := 94) dX6_readClose_94 rfl rfl ?_
          refine r_iload_n (pc := 95) dX6_readClose_95 rfl rfl ?_
          refine r_iload_n (pc := 96) dX6_readClose_96 rfl rfl ?_
          refine r_iload (pc := 97) dX6_readClose_97 rfl ?_
          obtain ⟨m28, x29, q30, h⟩ := gCl_some h
          refine r_callS (pc := 99) [.ref _, .int _, .int _, .int _] (tX6_closeOn _ _ _ hF _ _ _ _ _ _ _ q30 h1) ⟨rfl, rfl⟩ cd_X6_closeOn wX6_149 nm_X6_closeOn rfl (by rw [hRm]; decide) rfl (Nat.le_of_ble_eq_true rfl) dX6_readClose_99 ?_
          refine r_if_lt (pc := 102) (tgt := 109) dX6_readClose_102 (by decide) h (fun h => ?_) (fun h => ?_)
          · refine r_iconst (pc := 109) (v := 0) dX6_readClose_109 (by decide) ?_
            obtain ⟨m31, x32, q33, h⟩ := gCl_some h
            refine r_callV (kd := 5) (pc := 110) [.int _] (tX6_done _ _ _ hF _ _ _ q33) ⟨rfl, rfl⟩ cd_X6_done wX6_131 nm_X6_done rfl (by rw [hRm]; decide) rfl (Nat.le_of_ble_eq_true rfl) rfl (by decide) (gO5 hF) dX6_readClose_110 ?_
            exact r_zretH dX6_readClose_113 rfl h he
          · refine r_iconst (pc := 105) (v := 1) dX6_readClose_105 (by decide) ?_
            refine r_goto (pc := 106) (tgt := 110) dX6_readClose_106 (by decide) ?_
            obtain ⟨m34, x35, q36, h⟩ := gCl_some h
            refine r_callV (kd := 5) (pc := 110) [.int _] (tX6_done _ _ _ hF _ _ _ q36) ⟨rfl, rfl⟩ cd_X6_done wX6_131 nm_X6_done rfl (by rw [hRm]; decide) rfl (Nat.le_of_ble_eq_true rfl) rfl (by decide) (gO5 hF) dX6_readClose_110 ?_
            exact r_zretH dX6_readClose_113 rfl h he
      · refine r_aload_n (pc := 46) dX6_readClose_46 rfl rfl ?_
        refine fX6_7 (pc := 47) hF dX6_readClose_47 (fun b37 => ?_)
        refine r_aload_n (pc := 50) dX6_readClose_50 rfl rfl ?_
        refine fX6_112 (pc := 51) dX6_readClose_51 (gO5 hF) h (fun x38 h => ?_)
        refine r_iald (pc := 54) dX6_readClose_54 b37 h (fun x39 h => ?_)
        refine r_bipush (pc := 55) (v := 45) dX6_readClose_55 (by decide) ?_
        refine r_icmp_eq (pc := 57) (tgt := 62) dX6_readClose_57 (by decide) h (fun h => ?_) (fun h => ?_)
        · refine r_aload_n (pc := 62) dX6_readClose_62 rfl rfl ?_
          refine fX6_7 (pc := 63) hF dX6_readClose_63 (fun b40 => ?_)
          refine r_aload_n (pc := 66) dX6_readClose_66 rfl rfl ?_
          refine fX6_112 (pc := 67) dX6_readClose_67 (gO5 hF) h (fun x41 h => ?_)
          refine r_iald (pc := 70) dX6_readClose_70 b40 h (fun x42 h => ?_)
          refine r_bipush (pc := 71) (v := 43) dX6_readClose_71 (by decide) ?_
          refine r_icmp_ne (pc := 73) (tgt := 80) dX6_readClose_73 (by decide) h (fun h => ?_) (fun h => ?_)
          · refine r_iconst (pc := 80) (v := 0) dX6_readClose_80 (by decide) ?_
            refine r_istore (pc := 81) dX6_readClose_81 (by rw [hnL]; decide) rfl ?_
            refine r_aload_n (pc := 83) dX6_readClose_83 rfl rfl ?_
            refine r_dup (pc := 84) dX6_readClose_84 rfl ?_
            refine fX6_112 (pc := 85) dX6_readClose_85 (gO5 hF) h (fun x43 h => ?_)
            refine r_iconst (pc := 88) (v := 1) dX6_readClose_88 (by decide) ?_
            refine r_iadd (pc := 89) dX6_readClose_89 ?_
            refine fX6_112p (pc := 90) dX6_readClose_90 (gO5 hF) h (fun m44 h => ?_)
            refine r_aload_n (pc := 93) dX6_readClose_93 rfl rfl ?_
            refine r_aload_n (pc := 94) dX6_readClose_94 rfl rfl ?_
            refine r_iload_n (pc := 95) dX6_readClose_95 rfl rfl ?_
            refine r_iload_n (pc := 96) dX6_readClose_96 rfl rfl ?_
            refine r_iload (pc := 97) dX6_readClose_97 rfl ?_
            obtain ⟨m45, x46, q47, h⟩ := gCl_some h
            refine r_callS (pc := 99) [.ref _, .int _, .int _, .int _] (tX6_closeOn _ _ _ hF _ _ _ _ _ _ _ q47 h1) ⟨rfl, rfl⟩ cd_X6_closeOn wX6_149 nm_X6_closeOn rfl (by rw [hRm]; decide) rfl (Nat.le_of_ble_eq_true rfl) dX6_readClose_99 ?_
            refine r_if_lt (pc := 102) (tgt := 109) dX6_readClose_102 (by decide) h (fun h => ?_) (fun h => ?_)
            · refine r_iconst (pc := 109) (v := 0) dX6_readClose_109 (by decide) ?_
              obtain ⟨m48, x49, q50, h⟩ := gCl_some h
              refine r_callV (kd := 5) (pc := 110) [.int _] (tX6_done _ _ _ hF _ _ _ q50) ⟨rfl, rfl⟩ cd_X6_done wX6_131 nm_X6_done rfl (by rw [hRm]; decide) rfl (Nat.le_of_ble_eq_true rfl) rfl (by decide) (gO5 hF) dX6_readClose_110 ?_
              exact r_zretH dX6_readClose_113 rfl h he
            · refine r_iconst (pc := 105) (v := 1) dX6_readClose_105 (by decide) ?_
              refine r_goto (pc := 106) (tgt := 110) dX6_readClose_106 (by decide) ?_
              obtain ⟨m51, x52, q53, h⟩ := gCl_some h
              refine r_callV (kd := 5) (pc := 110) [.int _] (tX6_done _ _ _ hF _ _ _ q53) ⟨rfl, rfl⟩ cd_X6_done wX6_131 nm_X6_done rfl (by rw [hRm]; decide) rfl (Nat.le_of_ble_eq_true rfl) rfl (by decide) (gO5 hF) dX6_readClose_110 ?_
              exact r_zretH dX6_readClose_113 rfl h he
          · refine r_iconst (pc := 76) (v := 1) dX6_readClose_76 (by decide) ?_
            refine r_goto (pc := 77) (tgt := 81) dX6_readClose_77 (by decide) ?_
            refine r_istore (pc := 81) dX6_readClose_81 (by rw [hnL]; decide) rfl ?_
            refine r_aload_n (pc := 83) dX6_readClose_83 rfl rfl ?_
            refine r_dup (pc := 84) dX6_readClose_84 rfl ?_
            refine fX6_112 (pc := 85) dX6_readClose_85 (gO5 hF) h (fun x54 h => ?_)
            refine r_iconst (pc := 88) (v := 1) dX6_readClose_88 (by decide) ?_
            refine r_iadd (pc := 89) dX6_readClose_89 ?_
            refine fX6_112p (pc := 90) dX6_readClose_90 (gO5 hF) h (fun m55 h => ?_)
            refine r_aload_n (pc := 93) dX6_readClose_93 rfl rfl ?_
            refine r_aload_n (pc := 94) dX6_readClose_94 rfl rfl ?_
            refine r_iload_n (pc := 95) dX6_readClose_95 rfl rfl ?_
            refine r_iload_n (pc := 96) dX6_readClose_96 rfl rfl ?_
            refine r_iload (pc := 97) dX6_readClose_97 rfl ?_
            obtain ⟨m56, x57, q58, h⟩ := gCl_some h
            refine r_callS (pc := 99) [.ref _, .int _, .int _, .int _] (tX6_closeOn _ _ _ hF _ _ _ _ _ _ _ q58 h1) ⟨rfl, rfl⟩ cd_X6_closeOn wX6_149 nm_X6_closeOn rfl (by rw [hRm]; decide) rfl (Nat.le_of_ble_eq_true rfl) dX6_readClose_99 ?_
            refine r_if_lt (pc := 102) (tgt := 109) dX6_readClose_102 (by decide) h (fun h => ?_) (fun h => ?_)
            · refine r_iconst (pc := 109) (v := 0) dX6_readClose_109 (by decide) ?_
              obtain ⟨m59, x60, q61, h⟩ := gCl_some h
              refine r_callV (kd := 5) (pc := 110) [.int _] (tX6_done _ _ _ hF _ _ _ q61) ⟨rfl, rfl⟩ cd_X6_done wX6_131 nm_X6_done rfl (by rw [hRm]; decide) rfl (Nat.le_of_ble_eq_true rfl) rfl (by decide) (gO5 hF) dX6_readClose_110 ?_
              exact r_zretH dX6_readClose_113 rfl h he
            · refine r_iconst (pc := 105) (v := 1) dX6_readClose_105 (by decide) ?_
              refine r_goto (pc := 106) (tgt := 110) dX6_readClose_106 (by decide) ?_
              obtain ⟨m62, x63, q64, h⟩ := gCl_some h
              refine r_callV (kd := 5) (pc := 110) [.int _] (tX6_done _ _ _ hF _ _ _ q64) ⟨rfl, rfl⟩ cd_X6_done wX6_131 nm_X6_done rfl (by rw [hRm]; decide) rfl (Nat.le_of_ble_eq_true rfl) rfl (by decide) (gO5 hF) dX6_readClose_110 ?_
              exact r_zretH dX6_readClose_113 rfl h he
        · refine r_iconst (pc := 60) (v := 0) dX6_readClose_60 (by decide) ?_
          exact r_zretH dX6_readClose_61 rfl h he
def fX6_readCommand (a1 a1n : Nat) (m : gM) : Option (gM × Int32) := gLt (m (5693 + 9)) fun x2 => gRd m 5704 120 x2 fun x3 => gLt (m (5693 + 9)) fun x4 => gLt (upd m (5693 + 9) (x4 + 1)) fun m5 => (if x3 = 99 then gCl (fX6_readCustomer a1 a1n m5) fun m6 x7 => gRz .boolean x7 (some (m6, x7)) else (if x3 = 100 then gCl (fX6_figures 0 10 1 60 m5) fun m10 x11 => (if x11 = (-1) then gRz .boolean 0 (some (m10, 0)) else gCl (fX6_daysOn a1 a1n x11 m10) fun m13 x14 => (if x14 < 0 then gCl (fX6_done 0 m13) fun m16 x17 => (if x17 = 0 then gRz .boolean 0 (some (m16, 0)) else gRz .boolean 1 (some (m16, 1))) else gCl (fX6_done 1 m13) fun m19 x20 => (if x20 = 0 then gRz .boolean 0 (some (m19, 0)) else gRz .boolean 1 (some (m19, 1))))) else (if x3 = 101 then gLt (m5 (5693 + 9)) fun x23 => gLt (upd m5 (5693 + 9) (x23 - 1)) fun m24 => gRz .boolean 0 (some (m24, 0)) else (if x3 = 102 then gLt (m5 (5693 + 9)) fun x26 => gLt (upd m5 (5693 + 9) (x26 - 1)) fun m27 => gRz .boolean 0 (some (m27, 0)) else (if x3 = 103 then gLt (m5 (5693 + 9)) fun x29 => gLt (upd m5 (5693 + 9) (x29 - 1)) fun m30 => gRz .boolean 0 (some (m30, 0)) else (if x3 = 104 then gCl (fX6_readHoliday a1 a1n m5) fun m32 x33 => gRz .boolean x33 (some (m32, x33)) else (if x3 = 105 then gLt (m5 (5693 + 9)) fun x36 => gLt (upd m5 (5693 + 9) (x36 - 1)) fun m37 => gRz .boolean 0 (some (m37, 0)) else (if x3 = 106 then gLt (m5 (5693 + 9)) fun x39 => gLt (upd m5 (5693 + 9) (x39 - 1)) fun m40 => gRz .boolean 0 (some (m40, 0)) else (if x3 = 107 then gLt (m5 (5693 + 9)) fun x42 => gLt (upd m5 (5693 + 9) (x42 - 1)) fun m43 => gRz .boolean 0 (some (m43, 0)) else (if x3 = 108 then gLt (m5 (5693 + 9)) fun x45 => gLt (upd m5 (5693 + 9) (x45 - 1)) fun m46 => gRz .boolean 0 (some (m46, 0)) else (if x3 = 109 then gLt (m5 (5693 + 9)) fun x48 => gLt (upd m5 (5693 + 9) (x48 - 1)) fun m49 => gRz .boolean 0 (some (m49, 0)) else (if x3 = 110 then gCl (fX6_readChange a1 a1n m5) fun m51 x52 => gRz .boolean x52 (some (m51, x52)) else (if x3 = 111 then gLt (m5 (5693 + 9)) fun x55 => gLt (upd m5 (5693 + 9) (x55 - 1)) fun m56 => gRz .boolean 0 (some (m56, 0)) else (if x3 = 112 then gLt (m5 (5693 + 9)) fun x58 => gLt (upd m5 (5693 + 9) (x58 - 1)) fun m59 => gRz .boolean 0 (some (m59, 0)) else (if x3 = 113 then gLt (m5 (5693 + 9)) fun x61 => gLt (upd m5 (5693 + 9) (x61 - 1)) fun m62 => gRz .boolean 0 (some (m62, 0)) else (if x3 = 114 then gLt (m5 (5693 + 9)) fun x64 => gLt (upd m5 (5693 + 9) (x64 - 1)) fun m65 => gRz .boolean 0 (some (m65, 0)) else (if x3 = 115 then gCl (fX6_figures 0 1 0 4 m5) fun m67 x68 => gCl (fX6_figures x68 10 0 99 m67) fun m70 x71 => (if x71 = (-1) then gRz .boolean 0 (some (m70, 0)) else gCl (fX6_isSetting x68 x71 m70) fun m73 x74 => (if x74 = 0 then gCl (fX6_done 0 m73) fun m76 x77 => (if x77 = 0 then gRz .boolean 0 (some (m76, 0)) else gRz .boolean 1 (some (m76, 1))) else gCl (fX6_put a1 a1n (11 + x68) x71 m73) fun m79 x80 => (if x80 < 0 then gCl (fX6_done 0 m79) fun m82 x83 => (if x83 = 0 then gRz .boolean 0 (some (m82, 0)) else gRz .boolean 1 (some (m82, 1))) else gCl (fX6_done 1 m79) fun m85 x86 => (if x86 = 0 then gRz .boolean 0 (some (m85, 0)) else gRz .boolean 1 (some (m85, 1)))))) else (if x3 = 116 then gLt (m5 (5693 + 9)) fun x89 => gLt (upd m5 (5693 + 9) (x89 - 1)) fun m90 => gRz .boolean 0 (some (m90, 0)) else (if x3 = 117 then gLt (m5 (5693 + 9)) fun x92 => gLt (upd m5 (5693 + 9) (x92 - 1)) fun m93 => gRz .boolean 0 (some (m93, 0)) else (if x3 = 118 then gCl (fX6_streetSign 0 m5) fun m95 x96 => gCl (fX6_streetSign x96 m95) fun m98 x99 => (if x99 = (-1) then gRz .boolean 0 (some (m98, 0)) else gCl (fX6_swapOn a1 a1n x96 x99 m98) fun m101 x102 => (if x102 < 0 then gCl (fX6_done 0 m101) fun m104 x105 => (if x105 = 0 then gRz .boolean 0 (some (m104, 0)) else gRz .boolean 1 (some (m104, 1))) else gCl (fX6_done 1 m101) fun m107 x108 => (if x108 = 0 then gRz .boolean 0 (some (m107, 0)) else gRz .boolean 1 (some (m107, 1))))) else (if x3 = 119 then gLt (m5 (5693 + 9)) fun x111 => gLt (upd m5 (5693 + 9) (x111 - 1)) fun m112 => gRz .boolean 0 (some (m112, 0)) else (if x3 = 120 then gCl (fX6_readClose a1 a1n m5) fun m114 x115 => gRz .boolean x115 (some (m114, x115)) else gLt (m5 (5693 + 9)) fun x118 => gLt (upd m5 (5693 + 9) (x118 - 1)) fun m119 => gRz .boolean 0 (some (m119, 0))))))))))))))))))))))))
abbrev rmX6_readCommand : Room := { frames := 7, cells := 0, slots := 0, locals := 162 }
set_option maxHeartbeats 4000000 in
set_option maxRecDepth 100000 in
theorem tX6_readCommand (l : Launch) (G : gX) (u : gU) (hF : gFull u) (a1 a1n : Nat) (m : gM) (o : gM × Int32) (h : fX6_readCommand a1 a1n m = some o) (h1 : gIn u a1 7 a1n) : gMet l G u yX6_readCommand (.code yX6_readCommand cX6_readCommand 5 (some .boolean)) rmX6_readCommand [.ref 5693, .ref a1] m o.1 (some (.int o.2)) := by
  refine gMet_of (own := RX6) (k := 3) (by decide) rfl ⟨rfl, rfl⟩ (Nat.le_of_ble_eq_true rfl) [some (.ref 5693), some (.ref a1), none, none, none] rfl (fun Y hG hu hnL hLn hRm he => ?_)
  subst hG hu hLn
  unfold fX6_readCommand at h
  refine r_aload_n (pc := 0) dX6_readCommand_0 rfl rfl ?_
  refine fX6_7 (pc := 1) hF dX6_readCommand_1 (fun b1 => ?_)
  refine r_aload_n (pc := 4) dX6_readCommand_4 rfl rfl ?_
  refine fX6_112 (pc := 5) dX6_readCommand_5 (gO5 hF) h (fun x2 h => ?_)
  refine r_iald (pc := 8) dX6_readCommand_8 b1 h (fun x3 h => ?_)
  refine r_istore_n (pc := 9) dX6_readCommand_9 rfl (by rw [hnL]; decide) rfl ?_
  refine r_aload_n (pc := 10) dX6_readCommand_10 rfl rfl ?_
  refine r_dup (pc := 11) dX6_readCommand_11 rfl ?_
  refine fX6_112 (pc := 12) dX6_readCommand_12 (gO5 hF) h (fun x4 h => ?_)
  refine r_iconst (pc := 15) (v := 1) dX6_readCommand_15 (by decide) ?_
  refine r_iadd (pc := 16) dX6_readCommand_16 ?_
  refine fX6_112p (pc := 17) dX6_readCommand_17 (gO5 hF) h (fun m5 h => ?_)
  refine r_iload_n (pc := 20) dX6_readCommand_20 rfl rfl ?_
  refine r_sw h (fun g9 h => ?_) (fun g9 h => ?_)
  · refine r_tabIn (pc := 21) (tgt := 124) (v := 99) dX6_readCommand_21 g9 (by decide) (by decide) rfl (by decide) ?_
    refine r_aload_n (pc := 124) dX6_readCommand_124 rfl rfl ?_
    refine r_aload_n (pc := 125) dX6_readCommand_125 rfl rfl ?_
    obtain ⟨m6, x7, q8, h⟩ := gCl_some h
    refine r_callV (kd := 5) (pc := 126) [.ref _] (tX6_readCustomer _ _ _ hF _ _ _ _ q8 h1) ⟨rfl, rfl⟩ cd_X6_readCustomer wX6_153 nm_X6_readCustomer rfl (by rw [hRm]; decide) rfl (Nat.le_of_ble_eq_true rfl) rfl (by decide) (gO5 hF) dX6_readCommand_126 ?_
    exact r_zretH dX6_readCommand_129 rfl h he
  refine r_sw h (fun g22 h => ?_) (fun g22 h => ?_)
  · refine r_tabIn (pc := 21) (tgt := 262) (v := 100) dX6_readCommand_21 g22 (by decide) (by decide) rfl (by decide) ?_
    refine r_aload_n (pc := 262) dX6_readCommand_262 rfl rfl ?_
    refine r_iconst (pc := 263) (v := 0) dX6_readCommand_263 (by decide) ?_
    refine r_bipush (pc := 264) (v := 10) dX6_readCommand_264 (by decide) ?_
    refine r_iconst (pc := 266) (v := 1) dX6_readCommand_266 (by decide) ?_
    refine r_bipush (pc := 267) (v := 60) dX6_readCommand_267 (by decide) ?_
    obtain ⟨m10, x11, q12, h⟩ := gCl_some h
    refine r_callV (kd := 5) (pc := 269) [.int _, .int _, .int _, .int _] (tX6_figures _ _ _ hF _ _ _ _ _ _ q12) ⟨rfl, rfl⟩ cd_X6_figures wX6_118 nm_X6_figures rfl (by rw [hRm]; decide) rfl (Nat.le_of_ble_eq_true rfl) rfl (by decide) (gO5 hF) dX6_readCommand_269 ?_
    refine r_istore_n (pc := 272) dX6_readCommand_272 rfl (by rw [hnL]; decide) rfl ?_
    refine r_iload_n (pc := 273) dX6_readCommand_273 rfl rfl ?_
    refine r_iconst (pc := 274) (v := (-1)) dX6_readCommand_274 (by decide) ?_
    refine r_icmp_eq (pc := 275) (tgt := 302) dX6_readCommand_275 (by decide) h (fun h => ?_) (fun h => ?_)
    · refine r_iconst (pc := 302) (v := 0) dX6_readCommand_302 (by decide) ?_
      exact r_zretH dX6_readCommand_303 rfl h he
    · refine r_aload_n (pc := 278) dX6_readCommand_278 rfl rfl ?_
      refine r_aload_n (pc := 279) dX6_readCommand_279 rfl rfl ?_
      refine r_iload_n (pc := 280) dX6_readCommand_280 rfl rfl ?_
      obtain ⟨m13, x14, q15, h⟩ := gCl_some h
      refine r_callS (pc := 281) [.ref _, .int _] (tX6_daysOn _ _ _ hF _ _ _ _ _ q15 h1) ⟨rfl, rfl⟩ cd_X6_daysOn wX6_173 nm_X6_daysOn rfl (by rw [hRm]; decide) rfl (Nat.le_of_ble_eq_true rfl) dX6_readCommand_281 ?_
      refine r_if_lt (pc := 284) (tgt := 291) dX6_readCommand_284 (by decide) h (fun h => ?_) (fun h => ?_)
      · refine r_iconst (pc := 291) (v := 0) dX6_readCommand_291 (by decide) ?_
        obtain ⟨m16, x17, q18, h⟩ := gCl_some h
        refine r_callV (kd := 5) (pc := 292) [.int _] (tX6_done _ _ _ hF _ _ _ q18) ⟨rfl, rfl⟩ cd_X6_done wX6_131 nm_X6_done rfl (by rw [hRm]; decide) rfl (Nat.le_of_ble_eq_true rfl) rfl (by decide) (gO5 hF) dX6_readCommand_292 ?_
        refine r_if_eq (pc := 295) (tgt := 302) dX6_readCommand_295 (by decide) h (fun h => ?_) (fun h => ?_)
        · refine r_iconst (pc := 302) (v := 0) dX6_readCommand_302 (by decide) ?_
          exact r_zretH dX6_readCommand_303 rfl h he
        · refine r_iconst (pc := 298) (v := 1) dX6_readCommand_298 (by decide) ?_
          refine r_goto (pc := 299) (tgt := 303) dX6_readCommand_299 (by decide) ?_
          exact r_zretH dX6_readCommand_303 rfl h he
      · refine r_iconst (pc := 287) (v := 1) dX6_readCommand_287 (by decide) ?_
        refine r_goto (pc := 288) (tgt := 292) dX6_readCommand_288 (by decide) ?_
        obtain ⟨m19, x20, q21, h⟩ := gCl_some h
        refine r_callV (kd := 5) (pc := 292) [.int _] (tX6_done _ _ _ hF _ _ _ q21) ⟨rfl, rfl⟩ cd_X6_done wX6_131 nm_X6_done rfl (by rw [hRm]; decide) rfl (Nat.le_of_ble_eq_true rfl) rfl (by decide) (gO5 hF) dX6_readCommand_292 ?_
        refine r_if_eq (pc := 295) (tgt := 302) dX6_readCommand_295 (by decide) h (fun h => ?_) (fun h => ?_)
        · refine r_iconst (pc := 302) (v := 0) dX6_readCommand_302 (by decide) ?_
          exact r_zretH dX6_readCommand_303 rfl h he
        · refine r_iconst (pc := 298) (v := 1) dX6_readCommand_298 (by decide) ?_
          refine r_goto (pc := 299) (tgt := 303) dX6_readCommand_299 (by decide) ?_
          exact r_zretH dX6_readCommand_303 rfl h he
  refine r_sw h (fun g25 h => ?_) (fun g25 h => ?_)
  · refine r_tabIn (pc := 21) (tgt := 304) (v := 101) dX6_readCommand_21 g25 (by decide) (by decide) rfl (by decide) ?_
    refine r_aload_n (pc := 304) dX6_readCommand_304 rfl rfl ?_
    refine r_dup (pc := 305) dX6_readCommand_305 rfl ?_
    refine fX6_112 (pc := 306) dX6_readCommand_306 (gO5 hF) h (fun x23 h => ?_)
    refine r_iconst (pc := 309) (v := 1) dX6_readCommand_309 (by decide) ?_
    refine r_isub (pc := 310) dX6_readCommand_310 ?_
    refine fX6_112p (pc := 311) dX6_readCommand_311 (gO5 hF) h (fun m24 h => ?_)
    refine r_iconst (pc := 314) (v := 0) dX6_readCommand_314 (by decide) ?_
    exact r_zretH dX6_readCommand_315 rfl h he
  refine r_sw h (fun g28 h => ?_) (fun g28 h => ?_)
  · refine r_tabIn (pc := 21) (tgt := 304) (v := 102) dX6_readCommand_21 g28 (by decide) (by decide) rfl (by decide) ?_
    refine r_aload_n (pc := 304) dX6_readCommand_304 rfl rfl ?_
    refine r_dup (pc := 305) dX6_readCommand_305 rfl ?_
    refine fX6_112 (pc := 306) dX6_readCommand_306 (gO5 hF) h (fun x26 h => ?_)
    refine r_iconst (pc := 309) (v := 1) dX6_readCommand_309 (by decide) ?_
    refine r_isub (pc := 310) dX6_readCommand_310 ?_
    refine fX6_112p (pc := 311) dX6_readCommand_311 (gO5 hF) h (fun m27 h => ?_)
    refine r_iconst (pc := 314) (v := 0) dX6_readCommand_314 (by decide) ?_
    exact r_zretH dX6_readCommand_315 rfl h he
  refine r_sw h (fun g31 h => ?_) (fun g31 h => ?_)
  · refine r_tabIn (pc := 21) (tgt := 304) (v := 103) dX6_readCommand_21 g31 (by decide) (by decide) rfl (by decide) ?_
    refine r_aload_n (pc := 304) dX6_readCommand_304 rfl rfl ?_
    refine r_dup (pc := 305) dX6_readCommand_305 rfl ?_
    refine fX6_112 (pc := 306) dX6_readCommand_306 (gO5 hF) h (fun x29 h => ?_)
    refine r_iconst (pc := 309) (v := 1) dX6_readCommand_309 (by decide) ?_
    refine r_isub (pc := 310) dX6_readCommand_310 ?_
    refine fX6_112p (pc := 311) dX6_readCommand_311 (gO5 hF) h (fun m30 h => ?_)
    refine r_iconst (pc := 314) (v := 0) dX6_readCommand_314 (by decide) ?_
    exact r_zretH dX6_readCommand_315 rfl h he
  refine r_sw h (fun g35 h => ?_) (fun g35 h => ?_)
  · refine r_tabIn (pc := 21) (tgt := 136) (v := 104) dX6_readCommand_21 g35 (by decide) (by decide) rfl (by decide) ?_
    refine r_aload_n (pc := 136) dX6_readCommand_136 rfl rfl ?_
    refine r_aload_n (pc := 137) dX6_readCommand_137 rfl rfl ?_
    obtain ⟨m32, x33, q34, h⟩ := gCl_some h
    refine r_callV (kd := 5) (pc := 138) [.ref _] (tX6_readHoliday _ _ _ hF _ _ _ _ q34 h1) ⟨rfl, rfl⟩ cd_X6_readHoliday wX6_160 nm_X6_readHoliday rfl (by rw [hRm]; decide) rfl (Nat.le_of_ble_eq_true rfl) rfl (by decide) (gO5 hF) dX6_readCommand_138 ?_
    exact r_zretH dX6_readCommand_141 rfl h he
  refine r_sw h (fun g38 h => ?_) (fun g38 h => ?_)
  · refine r_tabIn (pc := 21) (tgt := 304) (v := 105) dX6_readCommand_21 g38 (by decide) (by decide) rfl (by decide) ?_
    refine r_aload_n (pc := 304) dX6_readCommand_304 rfl rfl ?_
    refine r_dup (pc := 305) dX6_readCommand_305 rfl ?_
    refine fX6_112 (pc := 306) dX6_readCommand_306 (gO5 hF) h (fun x36 h => ?_)
    refine r_iconst (pc := 309) (v := 1) dX6_readCommand_309 (by decide) ?_
    refine r_isub (pc := 310) dX6_readCommand_310 ?_
    refine fX6_112p (pc := 311) dX6_readCommand_311 (gO5 hF) h (fun m37 h => ?_)
    refine r_iconst (pc := 314) (v := 0) dX6_readCommand_314 (by decide) ?_
    exact r_zretH dX6_readCommand_315 rfl h he
  refine r_sw h (fun g41 h => ?_) (fun g41 h => ?_)
  · refine r_tabIn (pc := 21) (tgt := 304) (v := 106) dX6_readCommand_21 g41 (by decide) (by decide) rfl (by decide) ?_
    refine r_aload_n (pc := 304) dX6_readCommand_304 rfl rfl ?_
    refine r_dup (pc := 305) dX6_readCommand_305 rfl ?_
    refine fX6_112 (pc := 306) dX6_readCommand_306 (gO5 hF) h (fun x39 h => ?_)
    refine r_iconst (pc := 309) (v := 1) dX6_readCommand_309 (by decide) ?_
    refine r_isub (pc := 310) dX6_readCommand_310 ?_
    refine fX6_112p (pc := 311) dX6_readCommand_311 (gO5 hF) h (fun m40 h => ?_)
    refine r_iconst (pc := 314) (v := 0) dX6_readCommand_314 (by decide) ?_
    exact r_zretH dX6_readCommand_315 rfl h he
  refine r_sw h (fun g44 h => ?_) (fun g44 h => ?_)
  · refine r_tabIn (pc := 21) (tgt := 304) (v := 107) dX6_readCommand_21 g44 (by decide) (by decide) rfl (by decide) ?_
    refine r_aload_n (pc := 304) dX6_readCommand_304 rfl rfl ?_
    refine r_dup (pc := 305) dX6_readCommand_305 rfl ?_
    refine fX6_112 (pc := 306) dX6_readCommand_306 (gO5 hF) h (fun x42 h => ?_)
    refine r_iconst (pc := 309) (v := 1) dX6_readCommand_309 (by decide) ?_
    refine r_isub (pc := 310) dX6_readCommand_310 ?_
    refine fX6_112p (pc := 311) dX6_readCommand_311 (gO5 hF) h (fun m43 h => ?_)
    refine r_iconst (pc := 314) (v := 0) dX6_readCommand_314 (by decide) ?_
    exact r_zretH dX6_readCommand_315 rfl h he
  refine r_sw h (fun g47 h => ?_) (fun g47 h => ?_)
  · refine r_tabIn (pc := 21) (tgt := 304) (v := 108) dX6_readCommand_21 g47 (by decide) (by decide) rfl (by decide) ?_
    refine r_aload_n (pc := 304) dX6_readCommand_304 rfl rfl ?_
    refine r_dup (pc := 305) dX6_readCommand_305 rfl ?_
    refine fX6_112 (pc := 306) dX6_readCommand_306 (gO5 hF) h (fun x45 h => ?_)
    refine r_iconst (pc := 309) (v := 1) dX6_readCommand_309 (by decide) ?_
    refine r_isub (pc := 310) dX6_readCommand_310 ?_
    refine fX6_112p (pc := 311) dX6_readCommand_311 (gO5 hF) h (fun m46 h => ?_)
    refine r_iconst (pc := 314) (v := 0) dX6_readCommand_314 (by decide) ?_
    exact r_zretH dX6_readCommand_315 rfl h he
  refine r_sw h (fun g50 h => ?_) (fun g50 h => ?_)
  · refine r_tabIn (pc := 21) (tgt := 304) (v := 109) dX6_readCommand_21 g50 (by decide) (by decide) rfl (by decide) ?_
    refine r_aload_n (pc := 304) dX6_readCommand_304 rfl rfl ?_
    refine r_dup (pc := 305) dX6_readCommand_305 rfl ?_
    refine fX6_112 (pc := 306) dX6_readCommand_306 (gO5 hF) h (fun x48 h => ?_)
    refine r_iconst (pc := 309) (v := 1) dX6_readCommand_309 (by decide) ?_
    refine r_isub (pc := 310) dX6_readCommand_310 ?_
    refine fX6_112p (pc := 311) dX6_readCommand_311 (gO5 hF) h (fun m49 h => ?_)
    refine r_iconst (pc := 314) (v := 0) dX6_readCommand_314 (by decide) ?_
    exact r_zretH dX6_readCommand_315 rfl h he
  refine r_sw h (fun g54 h => ?_) (fun g54 h => ?_)
  · refine r_tabIn (pc := 21) (tgt := 130) (v := 110) dX6_readCommand_21 g54 (by decide) (by decide) rfl (by decide) ?_
    refine r_aload_n (pc := 130) dX6_readCommand_130 rfl rfl ?_
    refine r_aload_n (pc := 131) dX6_readCommand_131 rfl rfl ?_
    obtain ⟨m51, x52, q53, h⟩ := gCl_some h
    refine r_callV (kd := 5) (pc := 132) [.ref _] (tX6_readChange _ _ _ hF _ _ _ _ q53 h1) ⟨rfl, rfl⟩ cd_X6_readChange wX6_157 nm_X6_readChange rfl (by rw [hRm]; decide) rfl (Nat.le_of_ble_eq_true rfl) rfl (by decide) (gO5 hF) dX6_readCommand_132 ?_
    exact r_zretH dX6_readCommand_135 rfl h he
  refine r_sw h (fun g57 h => ?_) (fun g57 h => ?_)
  · refine r_tabIn (pc := 21) (tgt := 304) (v := 111) dX6_readCommand_21 g57 (by decide) (by decide) rfl (by decide) ?_
    refine r_aload_n (pc := 304) dX6_readCommand_304 rfl rfl ?_
    refine r_dup (pc := 305) dX6_readCommand_305 rfl ?_
    refine fX6_112 (pc := 306) dX6_readCommand_306 (gO5 hF) h (fun x55 h => ?_)
    refine r_iconst (pc := 309) (v := 1) dX6_readCommand_309 (by decide) ?_
    refine r_isub (pc := 310) dX6_readCommand_310 ?_
    refine fX6_112p (pc := 311) dX6_readCommand_311 (gO5 hF) h (fun m56 h => ?_)
    refine r_iconst (pc := 314) (v := 0) dX6_readCommand_314 (by decide) ?_
    exact r_zretH dX6_readCommand_315 rfl h he
  refine r_sw h (fun g60 h => ?_) (fun g60 h => ?_)
  · refine r_tabIn (pc := 21) (tgt := 304) (v := 112) dX6_readCommand_21 g60 (by decide) (by decide) rfl (by decide) ?_
    refine r_aload_n (pc := 304) dX6_readCommand_304 rfl rfl ?_
    refine r_dup (pc := 305) dX6_readCommand_305 rfl ?_
    refine fX6_112 (pc := 306) dX6_readCommand_306 (gO5 hF) h (fun x58 h => ?_)
    refine r_iconst (pc := 309) (v := 1) dX6_readCommand_309 (by decide) ?_
    refine r_isub (pc := 310) dX6_readCommand_310 ?_
    refine fX6_112p (pc := 311) dX6_readCommand_311 (gO5 hF) h (fun m59 h => ?_)
    refine r_iconst (pc := 314) (v := 0) dX6_readCommand_314 (by decide) ?_
    exact r_zretH dX6_readCommand_315 rfl h he
  refine r_sw h (fun g63 h => ?_) (fun g63 h => ?_)
  · refine r_tabIn (pc := 21) (tgt := 304) (v := 113) dX6_readCommand_21 g63 (by decide) (by decide) rfl (by decide) ?_
    refine r_aload_n (pc := 304) dX6_readCommand_304 rfl rfl ?_
    refine r_dup (pc := 305) dX6_readCommand_305 rfl ?_
    refine fX6_112 (pc := 306) dX6_readCommand_306 (gO5 hF) h (fun x61 h => ?_)
    refine r_iconst (pc := 309) (v := 1) dX6_readCommand_309 (by decide) ?_
    refine r_isub (pc := 310) dX6_readCommand_310 ?_
    refine fX6_112p (pc := 311) dX6_readCommand_311 (gO5 hF) h (fun m62 h => ?_)
    refine r_iconst (pc := 314) (v := 0) dX6_readCommand_314 (by decide) ?_
    exact r_zretH dX6_readCommand_315 rfl h he
  refine r_sw h (fun g66 h => ?_) (fun g66 h => ?_)
  · refine r_tabIn (pc := 21) (tgt := 304) (v := 114) dX6_readCommand_21 g66 (by decide) (by decide) rfl (by decide) ?_
    refine r_aload_n (pc := 304) dX6_readCommand_304 rfl rfl ?_
    refine r_dup (pc := 305) dX6_readCommand_305 rfl ?_
    refine fX6_112 (pc := 306) dX6_readCommand_306 (gO5 hF) h (fun x64 h => ?_)
    refine r_iconst (pc := 309) (v := 1) dX6_readCommand_309 (by decide) ?_
    refine r_isub (pc := 310) dX6_readCommand_310 ?_
    refine fX6_112p (pc := 311) dX6_readCommand_311 (gO5 hF) h (fun m65 h => ?_)
    refine r_iconst (pc := 314) (v := 0) dX6_readCommand_314 (by decide) ?_
    exact r_zretH dX6_readCommand_315 rfl h he
  refine r_sw h (fun g88 h => ?_) (fun g88 h => ?_)
  · refine r_tabIn (pc := 21) (tgt := 195) (v := 115) dX6_readCommand_21 g88 (by decide) (by decide) rfl (by decide) ?_
    refine r_aload_n (pc := 195) dX6_readCommand_195 rfl rfl ?_
    refine r_iconst (pc := 196) (v := 0) dX6_readCommand_196 (by decide) ?_
    refine r_iconst (pc := 197) (v := 1) dX6_readCommand_197 (by decide) ?_
    refine r_iconst (pc := 198) (v := 0) dX6_readCommand_198 (by decide) ?_
    refine r_iconst (pc := 199) (v := 4) dX6_readCommand_199 (by decide) ?_
    obtain ⟨m67, x68, q69, h⟩ := gCl_some h
    refine r_callV (kd := 5) (pc := 200) [.int _, .int _, .int _, .int _] (tX6_figures _ _ _ hF _ _ _ _ _ _ q69) ⟨rfl, rfl⟩ cd_X6_figures wX6_118 nm_X6_figures rfl (by rw [hRm]; decide) rfl (Nat.le_of_ble_eq_true rfl) rfl (by decide) (gO5 hF) dX6_readCommand_200 ?_
    refine r_istore_n (pc := 203) dX6_readCommand_203 rfl (by rw [hnL]; decide) rfl ?_
    refine r_aload_n (pc := 204) dX6_readCommand_204 rfl rfl ?_
    refine r_iload_n (pc := 205) dX6_readCommand_205 rfl rfl ?_
    refine r_bipush (pc := 206) (v := 10) dX6_readCommand_206 (by decide) ?_
    refine r_iconst (pc := 208) (v := 0) dX6_readCommand_208 (by decide) ?_
    refine r_bipush (pc := 209) (v := 99) dX6_readCommand_209 (by decide) ?_
    obtain ⟨m70, x71, q72, h⟩ := gCl_some h
    refine r_callV (kd := 5) (pc := 211) [.int _, .int _, .int _, .int _] (tX6_figures _ _ _ hF _ _ _ _ _ _ q72) ⟨rfl, rfl⟩ cd_X6_figures wX6_118 nm_X6_figures rfl (by rw [hRm]; decide) rfl (Nat.le_of_ble_eq_true rfl) rfl (by decide) (gO5 hF) dX6_readCommand_211 ?_
    refine r_istore (pc := 214) dX6_readCommand_214 (by rw [hnL]; decide) rfl ?_
    refine r_iload (pc := 216) dX6_readCommand_216 rfl ?_
    refine r_iconst (pc := 218) (v := (-1)) dX6_readCommand_218 (by decide) ?_
    refine r_icmp_eq (pc := 219) (tgt := 260) dX6_readCommand_219 (by decide) h (fun h => ?_) (fun h => ?_)
    · refine r_iconst (pc := 260) (v := 0) dX6_readCommand_260 (by decide) ?_
      exact r_zretH dX6_readCommand_261 rfl h he
    · refine r_aload_n (pc := 222) dX6_readCommand_222 rfl rfl ?_
      refine r_iload_n (pc := 223) dX6_readCommand_223 rfl rfl ?_
      refine r_iload (pc := 224) dX6_readCommand_224 rfl ?_
      obtain ⟨m73, x74, q75, h⟩ := gCl_some h
      refine r_callS (pc := 226) [.int _, .int _] (tX6_isSetting _ _ _ hF _ _ _ _ q75) ⟨rfl, rfl⟩ cd_X6_isSetting wX6_169 nm_X6_isSetting rfl (by rw [hRm]; decide) rfl (Nat.le_of_ble_eq_true rfl) dX6_readCommand_226 ?_
      refine r_if_eq (pc := 229) (tgt := 249) dX6_readCommand_229 (by decide) h (fun h => ?_) (fun h => ?_)
      · refine r_iconst (pc := 249) (v := 0) dX6_readCommand_249 (by decide) ?_
        obtain ⟨m76, x77, q78, h⟩ := gCl_some h
        refine r_callV (kd := 5) (pc := 250) [.int _] (tX6_done _ _ _ hF _ _ _ q78) ⟨rfl, rfl⟩ cd_X6_done wX6_131 nm_X6_done rfl (by rw [hRm]; decide) rfl (Nat.le_of_ble_eq_true rfl) rfl (by decide) (gO5 hF) dX6_readCommand_250 ?_
        refine r_if_eq (pc := 253) (tgt := 260) dX6_readCommand_253 (by decide) h (fun h => ?_) (fun h => ?_)
        · refine r_iconst (pc := 260) (v := 0) dX6_readCommand_260 (by decide) ?_
          exact r_zretH dX6_readCommand_261 rfl h he
        · refine r_iconst (pc := 256) (v := 1) dX6_readCommand_256 (by decide) ?_
          refine r_goto (pc := 257) (tgt := 261) dX6_readCommand_257 (by decide) ?_
          exact r_zretH dX6_readCommand_261 rfl h he
      · refine r_aload_n (pc := 232) dX6_readCommand_232 rfl rfl ?_
        refine r_bipush (pc := 233) (v := 11) dX6_readCommand_233 (by decide) ?_
        refine r_iload_n (pc := 235) dX6_readCommand_235 rfl rfl ?_
        refine r_iadd (pc := 236) dX6_readCommand_236 ?_
        refine r_iload (pc := 237) dX6_readCommand_237 rfl ?_
        obtain ⟨m79, x80, q81, h⟩ := gCl_some h
        refine r_callS (pc := 239) [.ref _, .int _, .int _] (tX6_put _ _ _ hF _ _ _ _ _ _ q81 h1) ⟨rfl, rfl⟩ cd_X6_put wX6_95 nm_X6_put rfl (by rw [hRm]; decide) rfl (Nat.le_of_ble_eq_true rfl) dX6_readCommand_239 ?_
        refine r_if_lt (pc := 242) (tgt := 249) dX6_readCommand_242 (by decide) h (fun h => ?_) (fun h => ?_)
        · refine r_iconst (pc := 249) (v := 0) dX6_readCommand_249 (by decide) ?_
          obtain ⟨m82, x83, q84, h⟩ := gCl_some h
          refine r_callV (kd := 5) (pc := 250) [.int _] (tX6_done _ _ _ hF _ _ _ q84) ⟨rfl, rfl⟩ cd_X6_done wX6_131 nm_X6_done rfl (by rw [hRm]; decide) rfl (Nat.le_of_ble_eq_true rfl) rfl (by decide) (gO5 hF) dX6_readCommand_250 ?_
          refine r_if_eq (pc := 253) (tgt := 260) dX6_readCommand_253 (by decide) h (fun h => ?_) (fun h => ?_)
          · refine r_iconst (pc := 260) (v := 0) dX6_readCommand_260 (by decide) ?_
            exact r_zretH dX6_readCommand_261 rfl h he
          · refine r_iconst (pc := 256) (v := 1) dX6_readCommand_256 (by decide) ?_
            refine r_goto (pc := 257) (tgt := 261) dX6_readCommand_257 (by decide) ?_
            exact r_zretH dX6_readCommand_261 rfl h he
        · refine r_iconst (pc := 245) (v := 1) dX6_readCommand_245 (by decide) ?_
          refine r_goto (pc := 246) (tgt := 250) dX6_readCommand_246 (by decide) ?_
          obtain ⟨m85, x86, q87, h⟩ := gCl_some h
          refine r_callV (kd := 5) (pc := 250) [.int _] (tX6_done _ _ _ hF _ _ _ q87) ⟨rfl, rfl⟩ cd_X6_done wX6_131 nm_X6_done rfl (by rw [hRm]; decide) rfl (Nat.le_of_ble_eq_true rfl) rfl (by decide) (gO5 hF) dX6_readCommand_250 ?_
          refine r_if_eq (pc := 253) (tgt := 260) dX6_readCommand_253 (by decide) h (fun h => ?_) (fun h => ?_)
          · refine r_iconst (pc := 260) (v := 0) dX6_readCommand_260 (by decide) ?_
            exact r_zretH dX6_readCommand_261 rfl h he
          · refine r_iconst (pc := 256) (v := 1) dX6_readCommand_256 (by decide) ?_
            refine r_goto (pc := 257) (tgt := 261) dX6_readCommand_257 (by decide) ?_
            exact r_zretH dX6_readCommand_261 rfl h he
  refine r_sw h (fun g91 h => ?_) (fun g91 h => ?_)
  · refine r_tabIn (pc := 21) (tgt := 304) (v := 116) dX6_readCommand_21 g91 (by decide) (by decide) rfl (by decide) ?_
    refine r_aload_n (pc := 304) dX6_readCommand_304 rfl rfl ?_
    refine r_dup (pc := 305) dX6_readCommand_305 rfl ?_
    refine fX6_112 (pc := 306) dX6_readCommand_306 (gO5 hF) h (fun x89 h => ?_)
    refine r_iconst (pc := 309) (v := 1) dX6_readCommand_309 (by decide) ?_
    refine r_isub (pc := 310) dX6_readCommand_310 ?_
    refine fX6_112p (pc := 311) dX6_readCommand_311 (gO5 hF) h (fun m90 h => ?_)
    refine r_iconst (pc := 314) (v := 0) dX6_readCommand_314 (by decide) ?_
    exact r_zretH dX6_readCommand_315 rfl h he
  refine r_sw h (fun g94 h => ?_) (fun g94 h => ?_)
  · refine r_tabIn (pc := 21) (tgt := 304) (v := 117) dX6_readCommand_21 g94 (by decide) (by decide) rfl (by decide) ?_
    refine r_aload_n (pc := 304) dX6_readCommand_304 rfl rfl ?_
    refine r_dup (pc := 305) dX6_readCommand_305 rfl ?_
    refine fX6_112 (pc := 306) dX6_readCommand_306 (gO5 hF) h (fun x92 h => ?_)
    refine r_iconst (pc := 309) (v := 1) dX6_readCommand_309 (by decide) ?_
    refine r_isub (pc := 310) dX6_readCommand_310 ?_
    refine fX6_112p (pc := 311) dX6_readCommand_311 (gO5 hF) h (fun m93 h => ?_)
    refine r_iconst (pc := 314) (v := 0) dX6_readCommand_314 (by decide) ?_
    exact r_zretH dX6_readCommand_315 rfl h he
  refine r_sw h (fun g110 h => ?_) (fun g110 h => ?_)
  · refine r_tabIn (pc := 21) (tgt := 148) (v := 118) dX6_readCommand_21 g110 (by decide) (by decide) rfl (by decide) ?_
    refine r_aload_n (pc := 148) dX6_readCommand_148 rfl rfl ?_
    refine r_iconst (pc := 149) (v := 0) dX6_readCommand_149 (by decide) ?_
    obtain ⟨m95, x96, q97, h⟩ := gCl_some h
    refine r_callV (kd := 5) (pc := 150) [.int _] (tX6_streetSign _ _ _ hF _ _ _ q97) ⟨rfl, rfl⟩ cd_X6_streetSign wX6_122 nm_X6_streetSign rfl (by rw [hRm]; decide) rfl (Nat.le_of_ble_eq_true rfl) rfl (by decide) (gO5 hF) dX6_readCommand_150 ?_
    refine r_istore_n (pc := 153) dX6_readCommand_153 rfl (by rw [hnL]; decide) rfl ?_
    refine r_aload_n (pc := 154) dX6_readCommand_154 rfl rfl ?_
    refine r_iload_n (pc := 155) dX6_readCommand_155 rfl rfl ?_
    obtain ⟨m98, x99, q100, h⟩ := gCl_some h
    refine r_callV (kd := 5) (pc := 156) [.int _] (tX6_streetSign _ _ _ hF _ _ _ q100) ⟨rfl, rfl⟩ cd_X6_streetSign wX6_122 nm_X6_streetSign rfl (by rw [hRm]; decide) rfl (Nat.le_of_ble_eq_true rfl) rfl (by decide) (gO5 hF) dX6_readCommand_156 ?_
    refine r_istore (pc := 159) dX6_readCommand_159 (by rw [hnL]; decide) rfl ?_
    refine r_iload (pc := 161) dX6_readCommand_161 rfl ?_
    refine r_iconst (pc := 163) (v := (-1)) dX6_readCommand_163 (by decide) ?_
    refine r_icmp_eq (pc := 164) (tgt := 193) dX6_readCommand_164 (by decide) h (fun h => ?_) (fun h => ?_)
    · refine r_iconst (pc := 193) (v := 0) dX6_readCommand_193 (by decide) ?_
      exact r_zretH dX6_readCommand_194 rfl h he
    · refine r_aload_n (pc := 167) dX6_readCommand_167 rfl rfl ?_
      refine r_aload_n (pc := 168) dX6_readCommand_168 rfl rfl ?_
      refine r_iload_n (pc := 169) dX6_readCommand_169 rfl rfl ?_
      refine r_iload (pc := 170) dX6_readCommand_170 rfl ?_
      obtain ⟨m101, x102, q103, h⟩ := gCl_some h
      refine r_callS (pc := 172) [.ref _, .int _, .int _] (tX6_swapOn _ _ _ hF _ _ _ _ _ _ q103 h1) ⟨rfl, rfl⟩ cd_X6_swapOn wX6_166 nm_X6_swapOn rfl (by rw [hRm]; decide) rfl (Nat.le_of_ble_eq_true rfl) dX6_readCommand_172 ?_
      refine r_if_lt (pc := 175) (tgt := 182) dX6_readCommand_175 (by decide) h (fun h => ?_) (fun h => ?_)
      · refine r_iconst (pc := 182) (v := 0) dX6_readCommand_182 (by decide) ?_
        obtain ⟨m104, x105, q106, h⟩ := gCl_some h
        refine r_callV (kd := 5) (pc := 183) [.int _] (tX6_done _ _ _ hF _ _ _ q106) ⟨rfl, rfl⟩ cd_X6_done wX6_131 nm_X6_done rfl (by rw [hRm]; decide) rfl (Nat.le_of_ble_eq_true rfl) rfl (by decide) (gO5 hF) dX6_readCommand_183 ?_
        refine r_if_eq (pc := 186) (tgt := 193) dX6_readCommand_186 (by decide) h (fun h => ?_) (fun h => ?_)
        · refine r_iconst (pc := 193) (v := 0) dX6_readCommand_193 (by decide) ?_
          exact r_zretH dX6_readCommand_194 rfl h he
        · refine r_iconst (pc := 189) (v := 1) dX6_readCommand_189 (by decide) ?_
          refine r_goto (pc := 190) (tgt := 194) dX6_readCommand_190 (by decide) ?_
          exact r_zretH dX6_readCommand_194 rfl h he
      · refine r_iconst (pc := 178) (v := 1) dX6_readCommand_178 (by decide) ?_
        refine r_goto (pc := 179) (tgt := 183) dX6_readCommand_179 (by decide) ?_
        obtain ⟨m107, x108, q109, h⟩ := gCl_some h
        refine r_callV (kd := 5) (pc := 183) [.int _] (tX6_done _ _ _ hF _ _ _ q109) ⟨rfl, rfl⟩ cd_X6_done wX6_131 nm_X6_done rfl (by rw [hRm]; decide) rfl (Nat.le_of_ble_eq_true rfl) rfl (by decide) (gO5 hF) dX6_readCommand_183 ?_
        refine r_if_eq (pc := 186) (tgt := 193) dX6_readCommand_186 (by decide) h (fun h => ?_) (fun h => ?_)
        · refine r_iconst (pc := 193) (v := 0) dX6_readCommand_193 (by decide) ?_
          exact r_zretH dX6_readCommand_194 rfl h he
        · refine r_iconst (pc := 189) (v := 1) dX6_readCommand_189 (by decide) ?_
          refine r_goto (pc := 190) (tgt := 194) dX6_readCommand_190 (by decide) ?_
          exact r_zretH dX6_readCommand_194 rfl h he
  refine r_sw h (fun g113 h => ?_) (fun g113 h => ?_)
  · refine r_tabIn (pc := 21) (tgt := 304) (v := 119) dX6_readCommand_21 g113 (by decide) (by decide) rfl (by decide) ?_
    refine r_aload_n (pc := 304) dX6_readCommand_304 rfl rfl ?_
    refine r_dup (pc := 305) dX6_readCommand_305 rfl ?_
    refine fX6_112 (pc := 306) dX6_readCommand_306 (gO5 hF) h (fun x111 h => ?_)
    refine r_iconst (pc := 309) (v := 1) dX6_readCommand_309 (by decide) ?_
    refine r_isub (pc := 310) dX6_readCommand_310 ?_
    refine fX6_112p (pc := 311) dX6_readCommand_311 (gO5 hF) h (fun m112 h => ?_)
    refine r_iconst (pc := 314) (v := 0) dX6_readCommand_314 (by decide) ?_
    exact r_zretH dX6_readCommand_315 rfl h he
  refine r_sw h (fun g117 h => ?_) (fun g117 h => ?_)
  · refine r_tabIn (pc := 21) (tgt := 142) (v := 120) dX6_readCommand_21 g117 (by decide) (by decide) rfl (by decide) ?_
    refine r_aload_n (pc := 142) dX6_readCommand_142 rfl rfl ?_
    refine r_aload_n (pc := 143) dX6_readCommand_143 rfl rfl ?_
    obtain ⟨m114, x115, q116, h⟩ := gCl_some h
    refine r_callV (kd := 5) (pc := 144) [.ref _] (tX6_readClose _ _ _ hF _ _ _ _ q116 h1) ⟨rfl, rfl⟩ cd_X6_readClose wX6_163 nm_X6_readClose rfl (by rw [hRm]; decide) rfl (Nat.le_of_ble_eq_true rfl) rfl (by decide) (gO5 hF) dX6_readCommand_144 ?_
    exact r_zretH dX6_readCommand_147 rfl h he
  have g9 := gNe g9 (z := 99) (by decide)
  have g22 := gNe g22 (z := 100) (by decide)
  have g25 := gNe g25 (z := 101) (by decide)
  have g28 := gNe g28 (z := 102) (by decide)
  have g31 := gNe g31 (z := 103) (by decide)
  have g35 := gNe g35 (z := 104) (by decide)
  have g38 := gNe g38 (z := 105) (by decide)
  have g41 := gNe g41 (z := 106) (by decide)
  have g44 := gNe g44 (z := 107) (by decide)
  have g47 := gNe g47 (z := 108) (by decide)
  have g50 := gNe g50 (z := 109) (by decide)
  have g54 := gNe g54 (z := 110) (by decide)
  have g57 := gNe g57 (z := 111) (by decide)
  have g60 := gNe g60 (z := 112) (by decide)
  have g63 := gNe g63 (z := 113) (by decide)
  have g66 := gNe g66 (z := 114) (by decide)
  have g88 := gNe g88 (z := 115) (by decide)
  have g91 := gNe g91 (z := 116) (by decide)
  have g94 := gNe g94 (z := 117) (by decide)
  have g110 := gNe g110 (z := 118) (by decide)
  have g113 := gNe g113 (z := 119) (by decide)
  have g117 := gNe g117 (z := 120) (by decide)
  refine r_tabOut (pc := 21) (tgt := 304) dX6_readCommand_21 (by omega) (by decide) ?_
  refine r_aload_n (pc := 304) dX6_readCommand_304 rfl rfl ?_
  refine r_dup (pc := 305) dX6_readCommand_305 rfl ?_
  refine fX6_112 (pc := 306) dX6_readCommand_306 (gO5 hF) h (fun x118 h => ?_)
  refine r_iconst (pc := 309) (v := 1) dX6_readCommand_309 (by decide) ?_
  refine r_isub (pc := 310) dX6_readCommand_310 ?_
  refine fX6_112p (pc := 311) dX6_readCommand_311 (gO5 hF) h (fun m119 h => ?_)
  refine r_iconst (pc := 314) (v := 0) dX6_readCommand_314 (by decide) ?_
  exact r_zretH dX6_readCommand_315 rfl h he
def fX6_readText_L39 (a1 : Nat) (a1n : Nat) : Nat → gM → Option (gM × Int32)
  | 0, _ => none
  | n + 1, m => gLt (m (5693 + 9)) fun x10 => gLt (m (5693 + 2)) fun x11 => (if x11 ≤ x10 then some (m, (-1)) else gCl (fX6_readCommand a1 a1n m) fun m12 x13 => (if x13 = 0 then gLt (m12 (5693 + 9)) fun x15 => some (m12, x15) else fX6_readText_L39 a1 a1n n m12))
def fX6_readText (a1 a1n : Nat) (m : gM) : Option (gM × Int32) := gCv (fX6_clear a1 a1n m) fun m1 => gLt (upd m1 (5693 + 10) 0) fun m4 => gLt (upd m4 (5693 + 9) 0) fun m5 => gLt (m5 (5693 + 2)) fun x6 => (if x6 = 0 then some (m5, 0) else gRd m5 5704 120 0 fun x8 => (if x8 = 66 then gLt (upd m5 (5693 + 9) 1) fun m9 => fX6_readText_L39 a1 a1n gFU m9 else some (m5, 0)))
abbrev rmX6_readText : Room := { frames := 8, cells := 0, slots := 0, locals := 186 }
set_option maxHeartbeats 4000000 in
set_option maxRecDepth 100000 in
theorem tX6_readText (l : Launch) (G : gX) (u : gU) (hF : gFull u) (a1 a1n : Nat) (m : gM) (o : gM × Int32) (h : fX6_readText a1 a1n m = some o) (h1 : gIn u a1 7 a1n) : gMet l G u yX6_readText (.code yX6_readText cX6_readText 2 (some .int)) rmX6_readText [.ref 5693, .ref a1] m o.1 (some (.int o.2)) := by
  refine gMet_of (own := RX6) (k := 0) (by decide) rfl ⟨rfl, rfl⟩ (Nat.le_of_ble_eq_true rfl) [some (.ref 5693), some (.ref a1)] rfl (fun Y hG hu hnL hLn hRm he => ?_)
  subst hG hu hLn
  unfold fX6_readText at h
  refine r_aload_n (pc := 0) dX6_readText_0 rfl rfl ?_
  obtain ⟨m1, q3, h⟩ := gCv_some h
  refine r_callS (pc := 1) [.ref _] (tX6_clear _ _ _ hF _ _ _ _ q3 h1) ⟨rfl, rfl⟩ cd_X6_clear wX6_29 nm_X6_clear rfl (by rw [hRm]; decide) rfl (Nat.le_of_ble_eq_true rfl) dX6_readText_1 ?_
  refine r_aload_n (pc := 4) dX6_readText_4 rfl rfl ?_
  refine r_iconst (pc := 5) (v := 0) dX6_readText_5 (by decide) ?_
  refine fX6_115p (pc := 6) dX6_readText_6 (gO5 hF) h (fun m4 h => ?_)
  refine r_aload_n (pc := 9) dX6_readText_9 rfl rfl ?_
  refine r_iconst (pc := 10) (v := 0) dX6_readText_10 (by decide) ?_
  refine fX6_112p (pc := 11) dX6_readText_11 (gO5 hF) h (fun m5 h => ?_)
  refine r_aload_n (pc := 14) dX6_readText_14 rfl rfl ?_
  refine fX6_105 (pc := 15) dX6_readText_15 (gO5 hF) h (fun x6 h => ?_)
  refine r_if_eq (pc := 18) (tgt := 32) dX6_readText_18 (by decide) h (fun h => ?_) (fun h => ?_)
  · refine r_iconst (pc := 32) (v := 0) dX6_readText_32 (by decide) ?_
    exact r_iretH dX6_readText_33 h he
  · refine r_aload_n (pc := 21) dX6_readText_21 rfl rfl ?_
    refine fX6_7 (pc := 22) hF dX6_readText_22 (fun b7 => ?_)
    refine r_iconst (pc := 25) (v := 0) dX6_readText_25 (by decide) ?_
    refine r_iald (pc := 26) dX6_readText_26 b7 h (fun x8 h => ?_)
    refine r_bipush (pc := 27) (v := 66) dX6_readText_27 (by decide) ?_
    refine r_icmp_eq (pc := 29) (tgt := 34) dX6_readText_29 (by decide) h (fun h => ?_) (fun h => ?_)
    · refine r_aload_n (pc := 34) dX6_readText_34 rfl rfl ?_
      refine r_iconst (pc := 35) (v := 1) dX6_readText_35 (by decide) ?_
      refine fX6_112p (pc := 36) dX6_readText_36 (gO5 hF) h (fun m9 h => ?_)
      have L18 : ∀ (n16 : Nat)  (m19 : gM), fX6_readText_L39 a1 a1n n16  m19 = some o → AW Y cX6_readText RX6 39 [some (.ref 5693), some (.ref a1)] [] m19 := by
        intro n16
        induction n16 with
        | zero =>
          intro  m19 h
          exact absurd h (by simp [fX6_readText_L39])
        | succ n16 ih17 =>
          intro  m19 h
          rw [fX6_readText_L39] at h
          refine r_aload_n (pc := 39) dX6_readText_39 rfl rfl ?_
          refine fX6_112 (pc := 40) dX6_readText_40 (gO5 hF) h (fun x20 h => ?_)
          refine r_aload_n (pc := 43) dX6_readText_43 rfl rfl ?_
          refine fX6_105 (pc := 44) dX6_readText_44 (gO5 hF) h (fun x21 h => ?_)
          refine r_icmp_ge (pc := 47) (tgt := 63) dX6_readText_47 (by decide) h (fun h => ?_) (fun h => ?_)
          · refine r_iconst (pc := 63) (v := (-1)) dX6_readText_63 (by decide) ?_
            exact r_iretH dX6_readText_64 h he
          · refine r_aload_n (pc := 50) dX6_readText_50 rfl rfl ?_
            refine r_aload_n (pc := 51) dX6_readText_51 rfl rfl ?_
            obtain ⟨m22, x23, q24, h⟩ := gCl_some h
            refine r_callV (kd := 5) (pc := 52) [.ref _] (tX6_readCommand _ _ _ hF _ _ _ _ q24 h1) ⟨rfl, rfl⟩ cd_X6_readCommand wX6_176 nm_X6_readCommand rfl (by rw [hRm]; decide) rfl (Nat.le_of_ble_eq_true rfl) rfl (by decide) (gO5 hF) dX6_readText_52 ?_
            refine r_if_ne (pc := 55) (tgt := 39) dX6_readText_55 (by decide) h (fun h => ?_) (fun h => ?_)
            · exact r_mask [true, true] rfl (ih17  _ h)
            · refine r_aload_n (pc := 58) dX6_readText_58 rfl rfl ?_
              refine fX6_112 (pc := 59) dX6_readText_59 (gO5 hF) h (fun x25 h => ?_)
              exact r_iretH dX6_readText_62 h he
      exact r_mask [true, true] rfl (L18 _  _ h)
    · refine r_iconst (pc := 32) (v := 0) dX6_readText_32 (by decide) ?_
      exact r_iretH dX6_readText_33 h he
def fX6_errorPosition  (m : gM) : Option (gM × Int32) := gLt (upd m (5693 + 0) 0) fun m1 => gCl (fX6_readText 6082 258 m1) fun m3 x4 => some (m3, x4)
abbrev rmX6_errorPosition : Room := { frames := 9, cells := 0, slots := 0, locals := 207 }
set_option maxHeartbeats 4000000 in
set_option maxRecDepth 100000 in
theorem tX6_errorPosition (l : Launch) (G : gX) (u : gU) (hF : gFull u)  (m : gM) (o : gM × Int32) (h : fX6_errorPosition  m = some o)  : gMet l G u yX6_errorPosition (.code yX6_errorPosition cX6_errorPosition 1 (some .int)) rmX6_errorPosition [.ref 5693] m o.1 (some (.int o.2)) := by
  refine gMet_of (own := RX6) (k := 0) (by decide) rfl ⟨rfl, rfl⟩ (Nat.le_of_ble_eq_true rfl) [some (.ref 5693)] rfl (fun Y hG hu hnL hLn hRm he => ?_)
  subst hG hu hLn
  unfold fX6_errorPosition at h
  refine r_aload_n (pc := 0) dX6_errorPosition_0 rfl rfl ?_
  refine r_iconst (pc := 1) (v := 0) dX6_errorPosition_1 (by decide) ?_
  refine fX6_33p (pc := 2) dX6_errorPosition_2 (gO5 hF) h (fun m1 h => ?_)
  refine r_aload_n (pc := 5) dX6_errorPosition_5 rfl rfl ?_
  refine r_aload_n (pc := 6) dX6_errorPosition_6 rfl rfl ?_
  refine fX6_16 (pc := 7) hF dX6_errorPosition_7 (fun b2 => ?_)
  obtain ⟨m3, x4, q5, h⟩ := gCl_some h
  refine r_callV (kd := 5) (pc := 10) [.ref _] (tX6_readText _ _ _ hF _ _ _ _ q5 b2) ⟨rfl, rfl⟩ cd_X6_readText wX6_179 nm_X6_readText rfl (by rw [hRm]; decide) rfl (Nat.le_of_ble_eq_true rfl) rfl (by decide) (gO5 hF) dX6_errorPosition_10 ?_
  exact r_iretH dX6_errorPosition_13 h he
def fX6_load  (m : gM) : Option (gM × Int32) := gCl (fX6_readText 6082 258 m) fun m2 x3 => (if x3 = (-1) then gCl (fX6_refused 0 m2) fun m19 x20 => (if x20 = 0 then gCv (fX6_copyState 6082 258 0 5824 258 0 m19) fun m24 => gLt (upd m24 (5693 + 6) 0) fun m27 => gWr m27 10468 2 0 (vp_nar .boolean 0) fun m29 => gWr m29 10468 2 1 (vp_nar .boolean 0) fun m31 => gLt (m31 (5693 + 10)) fun x32 => some (m31, x32) else some (m19, 0)) else gCl (fX6_refused 1 m2) fun m5 x6 => (if x6 = 0 then gCv (fX6_copyState 6082 258 0 5824 258 0 m5) fun m10 => gLt (upd m10 (5693 + 6) 0) fun m13 => gWr m13 10468 2 0 (vp_nar .boolean 0) fun m15 => gWr m15 10468 2 1 (vp_nar .boolean 0) fun m17 => gLt (m17 (5693 + 10)) fun x18 => some (m17, x18) else some (m5, 0)))
abbrev rmX6_load : Room := { frames := 9, cells := 0, slots := 0, locals := 207 }
set_option maxHeartbeats 4000000 in
set_option maxRecDepth 100000 in
theorem tX6_load (l : Launch) (G : gX) (u : gU) (hF : gFull u)  (m : gM) (o : gM × Int32) (h : fX6_load  m = some o)  : gMet l G u yX6_load (.code yX6_load cX6_load 1 (some .int)) rmX6_load [.ref 5693] m o.1 (some (.int o.2)) := by
  refine gMet_of (own := RX6) (k := 0) (by decide) rfl ⟨rfl, rfl⟩ (Nat.le_of_ble_eq_true rfl) [some (.ref 5693)] rfl (fun Y hG hu hnL hLn hRm he => ?_)
  subst hG hu hLn
  unfold fX6_load at h
  refine r_aload_n (pc := 0) dX6_load_0 rfl rfl ?_
  refine r_aload_n (pc := 1) dX6_load_1 rfl rfl ?_
  refine r_aload_n (pc := 2) dX6_load_2 rfl rfl ?_
  refine fX6_16 (pc := 3) hF dX6_load_3 (fun b1 => ?_)
  obtain ⟨m2, x3, q4, h⟩ := gCl_some h
  refine r_callV (kd := 5) (pc := 6) [.ref _] (tX6_readText _ _ _ hF _ _ _ _ q4 b1) ⟨rfl, rfl⟩ cd_X6_readText wX6_179 nm_X6_readText rfl (by rw [hRm]; decide) rfl (Nat.le_of_ble_eq_true rfl) rfl (by decide) (gO5 hF) dX6_load_6 ?_
  refine r_iconst (pc := 9) (v := (-1)) dX6_load_9 (by decide) ?_
  refine r_icmp_ne (pc := 10) (tgt := 17) dX6_load_10 (by decide) h (fun h => ?_) (fun h => ?_)
  · refine r_iconst (pc := 17) (v := 1) dX6_load_17 (by decide) ?_
    obtain ⟨m5, x6, q7, h⟩ := gCl_some h
    refine r_callV (kd := 5) (pc := 18) [.int _] (tX6_refused _ _ _ hF _ _ _ q7) ⟨rfl, rfl⟩ cd_X6_refused wX6_108 nm_X6_refused rfl (by rw [hRm]; decide) rfl (Nat.le_of_ble_eq_true rfl) rfl (by decide) (gO5 hF) dX6_load_18 ?_
    refine r_if_eq (pc := 21) (tgt := 26) dX6_load_21 (by decide) h (fun h => ?_) (fun h => ?_)
    · refine r_aload_n (pc := 26) dX6_load_26 rfl rfl ?_
      refine fX6_16 (pc := 27) hF dX6_load_27 (fun b8 => ?_)
      refine r_iconst (pc := 30) (v := 0) dX6_load_30 (by decide) ?_
      refine r_aload_n (pc := 31) dX6_load_31 rfl rfl ?_
      refine fX6_13 (pc := 32) hF dX6_load_32 (fun b9 => ?_)
      refine r_iconst (pc := 35) (v := 0) dX6_load_35 (by decide) ?_
      obtain ⟨m10, q12, h⟩ := gCv_some h
      refine r_callS (pc := 36) [.ref _, .int _, .ref _, .int _] (tX6_copyState _ _ _ hF _ _ _ _ _ _ _ _ q12 b8 b9) ⟨rfl, rfl⟩ cd_X6_copyState wX6_183 nm_X6_copyState rfl (by rw [hRm]; decide) rfl (Nat.le_of_ble_eq_true rfl) dX6_load_36 ?_
      refine r_aload_n (pc := 39) dX6_load_39 rfl rfl ?_
      refine r_iconst (pc := 40) (v := 0) dX6_load_40 (by decide) ?_
      refine fX6_187p (pc := 41) dX6_load_41 (gO5 hF) h (fun m13 h => ?_)
      refine r_aload_n (pc := 44) dX6_load_44 rfl rfl ?_
      refine fX6_25 (pc := 45) hF dX6_load_45 (fun b14 => ?_)
      refine r_iconst (pc := 48) (v := 0) dX6_load_48 (by decide) ?_
      refine r_iconst (pc := 49) (v := 0) dX6_load_49 (by decide) ?_
      refine r_zast (pc := 50) dX6_load_50 b14 h (fun m15 h => ?_)
      refine r_aload_n (pc := 51) dX6_load_51 rfl rfl ?_
      refine fX6_25 (pc := 52) hF dX6_load_52 (fun b16 => ?_)
      refine r_iconst (pc := 55) (v := 1) dX6_load_55 (by decide) ?_
      refine r_iconst (pc := 56) (v := 0) dX6_load_56 (by decide) ?_
      refine r_zast (pc := 57) dX6_load_57 b16 h (fun m17 h => ?_)
      refine r_aload_n (pc := 58) dX6_load_58 rfl rfl ?_
      refine fX6_115 (pc := 59) dX6_load_59 (gO5 hF) h (fun x18 h => ?_)
      exact r_iretH dX6_load_62 h he
    · refine r_iconst (pc := 24) (v := 0) dX6_load_24 (by decide) ?_
      exact r_iretH dX6_load_25 h he
  · refine r_iconst (pc := 13) (v := 0) dX6_load_13 (by decide) ?_
    refine r_goto (pc := 14) (tgt := 18) dX6_load_14 (by decide) ?_
    obtain ⟨m19, x20, q21, h⟩ := gCl_some h
    refine r_callV (kd := 5) (pc := 18) [.int _] (tX6_refused _ _ _ hF _ _ _ q21) ⟨rfl, rfl⟩ cd_X6_refused wX6_108 nm_X6_refused rfl (by rw [hRm]; decide) rfl (Nat.le_of_ble_eq_true rfl) rfl (by decide) (gO5 hF) dX6_load_18 ?_
    refine r_if_eq (pc := 21) (tgt := 26) dX6_load_21 (by decide) h (fun h => ?_) (fun h => ?_)
    · refine r_aload_n (pc := 26) dX6_load_26 rfl rfl ?_
      refine fX6_16 (pc := 27) hF dX6_load_27 (fun b22 => ?_)
      refine r_iconst (pc := 30) (v := 0) dX6_load_30 (by decide) ?_
      refine r_aload_n (pc := 31) dX6_load_31 rfl rfl ?_
      refine fX6_13 (pc := 32) hF dX6_load_32 (fun b23 => ?_)
      refine r_iconst (pc := 35) (v := 0) dX6_load_35 (by decide) ?_
      obtain ⟨m24, q26, h⟩ := gCv_some h
      refine r_callS (pc := 36) [.ref _, .int _, .ref _, .int _] (tX6_copyState _ _ _ hF _ _ _ _ _ _ _ _ q26 b22 b23) ⟨rfl, rfl⟩ cd_X6_copyState wX6_183 nm_X6_copyState rfl (by rw [hRm]; decide) rfl (Nat.le_of_ble_eq_true rfl) dX6_load_36 ?_
      refine r_aload_n (pc := 39) dX6_load_39 rfl rfl ?_
      refine r_iconst (pc := 40) (v := 0) dX6_load_40 (by decide) ?_
      refine fX6_187p (pc := 41) dX6_load_41 (gO5 hF) h (fun m27 h => ?_)
      refine r_aload_n (pc := 44) dX6_load_44 rfl rfl ?_
      refine fX6_25 (pc := 45) hF dX6_load_45 (fun b28 => ?_)
      refine r_iconst (pc := 48) (v := 0) dX6_load_48 (by decide) ?_
      refine r_iconst (pc := 49) (v := 0) dX6_load_49 (by decide) ?_
      refine r_zast (pc := 50) dX6_load_50 b28 h (fun m29 h => ?_)
      refine r_aload_n (pc := 51) dX6_load_51 rfl rfl ?_
      refine fX6_25 (pc := 52) hF dX6_load_52 (fun b30 => ?_)
      refine r_iconst (pc := 55) (v := 1) dX6_load_55 (by decide) ?_
      refine r_iconst (pc := 56) (v := 0) dX6_load_56 (by decide) ?_
      refine r_zast (pc := 57) dX6_load_57 b30 h (fun m31 h => ?_)
      refine r_aload_n (pc := 58) dX6_load_58 rfl rfl ?_
      refine fX6_115 (pc := 59) dX6_load_59 (gO5 hF) h (fun x32 h => ?_)
      exact r_iretH dX6_load_62 h he
    · refine r_iconst (pc := 24) (v := 0) dX6_load_24 (by decide) ?_
      exact r_iretH dX6_load_25 h he
def fX6_about (p1 : Int32) (m : gM) : Option (gM × Int32) := gCl (fX6_in (p1.toInt64) 0 12 m) fun m1 x2 => (if x2 = 0 then gCl (fX6_refused 1 m1) fun m4 x5 => (if x5 = 0 then (if p1 = 6 then gCl (fX6_credits 5824 258 m4) fun m8 x9 => some (m8, x9) else (if p1 = 7 then gRd m4 5824 258 (p1 - 1) fun x13 => some (m4, x13) else (if p1 = 8 then gRd m4 5824 258 (p1 - 1) fun x16 => some (m4, x16) else (if p1 = 9 then gRd m4 5824 258 (p1 - 1) fun x19 => some (m4, x19) else (if p1 = 10 then gRd m4 5824 258 (p1 - 1) fun x22 => some (m4, x22) else (if p1 = 11 then gRd m4 5824 258 (p1 - 1) fun x25 => some (m4, x25) else (if p1 = 12 then gRd m4 5824 258 1 fun x29 => gCl (fX6_allDue 5824 258 x29 m4) fun m30 x31 => some (m30, x31) else gRd m4 5824 258 p1 fun x35 => some (m4, x35)))))))) else some (m4, 0)) else gCl (fX6_refused 0 m1) fun m36 x37 => (if x37 = 0 then (if p1 = 6 then gCl (fX6_credits 5824 258 m36) fun m40 x41 => some (m40, x41) else (if p1 = 7 then gRd m36 5824 258 (p1 - 1) fun x45 => some (m36, x45) else (if p1 = 8 then gRd m36 5824 258 (p1 - 1) fun x48 => some (m36, x48) else (if p1 = 9 then gRd m36 5824 258 (p1 - 1) fun x51 => some (m36, x51) else (if p1 = 10 then gRd m36 5824 258 (p1 - 1) fun x54 => some (m36, x54) else (if p1 = 11 then gRd m36 5824 258 (p1 - 1) fun x57 => some (m36, x57) else (if p1 = 12 then gRd m36 5824 258 1 fun x61 => gCl (fX6_allDue 5824 258 x61 m36) fun m62 x63 => some (m62, x63) else gRd m36 5824 258 p1 fun x67 => some (m36, x67)))))))) else some (m36, 0)))
abbrev rmX6_about : Room := { frames := 4, cells := 0, slots := 0, locals := 94 }
set_option maxHeartbeats 4000000 in
set_option maxRecDepth 100000 in
theorem tX6_about (l : Launch) (G : gX) (u : gU) (hF : gFull u) (p1 : Int32) (m : gM) (o : gM × Int32) (h : fX6_about p1 m = some o)  : gMet l G u yX6_about (.code yX6_about cX6_about 2 (some .int)) rmX6_about [.ref 5693, .int p1] m o.1 (some (.int o.2)) := by
  refine gMet_of (own := RX6) (k := 0) (by decide) rfl ⟨rfl, rfl⟩ (Nat.le_of_ble_eq_true rfl) [some (.ref 5693), some (.int p1)] rfl (fun Y hG hu hnL hLn hRm he => ?_)
  subst hG hu hLn
  unfold fX6_about at h
  refine r_aload_n (pc := 0) dX6_about_0 rfl rfl ?_
  refine r_iload_n (pc := 1) dX6_about_1 rfl rfl ?_
  refine r_i2l (pc := 2) dX6_about_2 ?_
  refine r_lconst (pc := 3) (v := 0) dX6_about_3 (by decide) ?_
  refine r_ldc2 (pc := 4) (v := 12) dX6_about_4 cX6_190 ?_
  obtain ⟨m1, x2, q3, h⟩ := gCl_some h
  refine r_callS (pc := 7) [.long _, .long _, .long _] (tX6_in _ _ _ hF _ _ _ _ _ q3) ⟨rfl, rfl⟩ cd_X6_in wX6_37 nm_X6_in rfl (by rw [hRm]; decide) rfl (Nat.le_of_ble_eq_true rfl) dX6_about_7 ?_
  refine r_if_eq (pc := 10) (tgt := 17) dX6_about_10 (by decide) h (fun h => ?_) (fun h => ?_)
  · refine r_iconst (pc := 17) (v := 1) dX6_about_17 (by decide) ?_
    obtain ⟨m4, x5, q6, h⟩ := gCl_some h
    refine r_callV (kd := 5) (pc := 18) [.int _] (tX6_refused _ _ _ hF _ _ _ q6) ⟨rfl, rfl⟩ cd_X6_refused wX6_108 nm_X6_refused rfl (by rw [hRm]; decide) rfl (Nat.le_of_ble_eq_true rfl) rfl (by decide) (gO5 hF) dX6_about_18 ?_
    refine r_if_eq (pc := 21) (tgt := 26) dX6_about_21 (by decide) h (fun h => ?_) (fun h => ?_)
    · refine r_iload_n (pc := 26) dX6_about_26 rfl rfl ?_
      refine r_sw h (fun g11 h => ?_) (fun g11 h => ?_)
      · refine r_tabIn (pc := 27) (tgt := 68) (v := 6) dX6_about_27 g11 (by decide) (by decide) rfl (by decide) ?_
        refine r_aload_n (pc := 68) dX6_about_68 rfl rfl ?_
        refine fX6_13 (pc := 69) hF dX6_about_69 (fun b7 => ?_)
        obtain ⟨m8, x9, q10, h⟩ := gCl_some h
        refine r_callS (pc := 72) [.ref _] (tX6_credits _ _ _ hF _ _ _ _ q10 b7) ⟨rfl, rfl⟩ cd_X6_credits wX6_192 nm_X6_credits rfl (by rw [hRm]; decide) rfl (Nat.le_of_ble_eq_true rfl) dX6_about_72 ?_
        exact r_iretH dX6_about_75 h he
      refine r_sw h (fun g14 h => ?_) (fun g14 h => ?_)
      · refine r_tabIn (pc := 27) (tgt := 90) (v := 7) dX6_about_27 g14 (by decide) (by decide) rfl (by decide) ?_
        refine r_aload_n (pc := 90) dX6_about_90 rfl rfl ?_
        refine fX6_13 (pc := 91) hF dX6_about_91 (fun b12 => ?_)
        refine r_iload_n (pc := 94) dX6_about_94 rfl rfl ?_
        refine r_iconst (pc := 95) (v := 1) dX6_about_95 (by decide) ?_
        refine r_isub (pc := 96) dX6_about_96 ?_
        refine r_iald (pc := 97) dX6_about_97 b12 h (fun x13 h => ?_)
        exact r_iretH dX6_about_98 h he
      refine r_sw h (fun g17 h => ?_) (fun g17 h => ?_)
      · refine r_tabIn (pc := 27) (tgt := 90) (v := 8) dX6_about_27 g17 (by decide) (by decide) rfl (by decide) ?_
        refine r_aload_n (pc := 90) dX6_about_90 rfl rfl ?_
        refine fX6_13 (pc := 91) hF dX6_about_91 (fun b15 => ?_)
        refine r_iload_n (pc := 94) dX6_about_94 rfl rfl ?_
        refine r_iconst (pc := 95) (v := 1) dX6_about_95 (by decide) ?_
        refine r_isub (pc := 96) dX6_about_96 ?_
        refine r_iald (pc := 97) dX6_about_97 b15 h (fun x16 h => ?_)
        exact r_iretH dX6_about_98 h he
      refine r_sw h (fun g20 h => ?_) (fun g20 h => ?_)
      · refine r_tabIn (pc := 27) (tgt := 90) (v := 9) dX6_about_27 g20 (by decide) (by decide) rfl (by decide) ?_
        refine r_aload_n (pc := 90) dX6_about_90 rfl rfl ?_
        refine fX6_13 (pc := 91) hF dX6_about_91 (fun b18 => ?_)
        refine r_iload_n (pc := 94) dX6_about_94 rfl rfl ?_
        refine r_iconst (pc := 95) (v := 1) dX6_about_95 (by decide) ?_
        refine r_isub (pc := 96) dX6_about_96 ?_
        refine r_iald (pc := 97) dX6_about_97 b18 h (fun x19 h => ?_)
        exact r_iretH dX6_about_98 h he
      refine r_sw h (fun g23 h => ?_) (fun g23 h => ?_)
      · refine r_tabIn (pc := 27) (tgt := 90) (v := 10) dX6_about_27 g23 (by decide) (by decide) rfl (by decide) ?_
        refine r_aload_n (pc := 90) dX6_about_90 rfl rfl ?_
        refine fX6_13 (pc := 91) hF dX6_about_91 (fun b21 => ?_)
        refine r_iload_n (pc := 94) dX6_about_94 rfl rfl ?_
        refine r_iconst (pc := 95) (v := 1) dX6_about_95 (by decide) ?_
        refine r_isub (pc := 96) dX6_about_96 ?_
        refine r_iald (pc := 97) dX6_about_97 b21 h (fun x22 h => ?_)
        exact r_iretH dX6_about_98 h he
      refine r_sw h (fun g26 h => ?_) (fun g26 h => ?_)
      · refine r_tabIn (pc := 27) (tgt := 90) (v := 11) dX6_about_27 g26 (by decide) (by decide) rfl (by decide) ?_
        refine r_aload_n (pc := 90) dX6_about_90 rfl rfl ?_
        refine fX6_13 (pc := 91) hF dX6_about_91 (fun b24 => ?_)
        refine r_iload_n (pc := 94) dX6_about_94 rfl rfl ?_
        refine r_iconst (pc := 95) (v := 1) dX6_about_95 (by decide) ?_
        refine r_isub (pc := 96) dX6_about_96 ?_
        refine r_iald (pc := 97) dX6_about_97 b24 h (fun x25 h => ?_)
        exact r_iretH dX6_about_98 h he
      refine r_sw h (fun g33 h => ?_) (fun g33 h => ?_)
      · refine r_tabIn (pc := 27) (tgt := 76) (v := 12) dX6_about_27 g33 (by decide) (by decide) rfl (by decide) ?_
        refine r_aload_n (pc := 76) dX6_about_76 rfl rfl ?_
        refine fX6_13 (pc := 77) hF dX6_about_77 (fun b27 => ?_)
        refine r_aload_n (pc := 80) dX6_about_80 rfl rfl ?_
        refine fX6_13 (pc := 81) hF dX6_about_81 (fun b28 => ?_)
        refine r_iconst (pc := 84) (v := 1) dX6_about_84 (by decide) ?_
        refine r_iald (pc := 85) dX6_about_85 b28 h (fun x29 h => ?_)
        obtain ⟨m30, x31, q32, h⟩ := gCl_some h
        refine r_callS (pc := 86) [.ref _, .int _] (tX6_allDue _ _ _ hF _ _ _ _ _ q32 b27) ⟨rfl, rfl⟩ cd_X6_allDue wX6_64 nm_X6_allDue rfl (by rw [hRm]; decide) rfl (Nat.le_of_ble_eq_true rfl) dX6_about_86 ?_
        exact r_iretH dX6_about_89 h he
      have g11 := gNe g11 (z := 6) (by decide)
      have g14 := gNe g14 (z := 7) (by decide)
      have g17 := gNe g17 (z := 8) (by decide)
      have g20 := gNe g20 (z := 9) (by decide)
      have g23 := gNe g23 (z := 10) (by decide)
      have g26 := gNe g26 (z := 11) (by decide)
      have g33 := gNe g33 (z := 12) (by decide)
      refine r_tabOut (pc := 27) (tgt := 99) dX6_about_27 (by omega) (by decide) ?_
      refine r_aload_n (pc := 99) dX6_about_99 rfl rfl ?_
      refine fX6_13 (pc := 100) hF dX6_about_100 (fun b34 => ?_)
      refine r_iload_n (pc := 103) dX6_about_103 rfl rfl ?_
      refine r_iald (pc := 104) dX6_about_104 b34 h (fun x35 h => ?_)
      exact r_iretH dX6_about_105 h he
    · refine r_iconst (pc := 24) (v := 0) dX6_about_24 (by decide) ?_
      exact r_iretH dX6_about_25 h he
  · refine r_iconst (pc := 13) (v := 0) dX6_about_13 (by decide) ?_
    refine r_goto (pc := 14) (tgt := 18) dX6_about_14 (by decide) ?_
    obtain ⟨m36, x37, q38, h⟩ := gCl_some h
    refine r_callV (kd := 5) (pc := 18) [.int _] (tX6_refused _ _ _ hF _ _ _ q38) ⟨rfl, rfl⟩ cd_X6_refused wX6_108 nm_X6_refused rfl (by rw [hRm]; decide) rfl (Nat.le_of_ble_eq_true rfl) rfl (by decide) (gO5 hF) dX6_about_18 ?_
    refine r_if_eq (pc := 21) (tgt := 26) dX6_about_21 (by decide) h (fun h => ?_) (fun h => ?_)
    · refine r_iload_n (pc := 26) dX6_about_26 rfl rfl ?_
      refine r_sw h (fun g43 h => ?_) (fun g43 h => ?_)
      · refine r_tabIn (pc := 27) (tgt := 68) (v := 6) dX6_about_27 g43 (by decide) (by decide) rfl (by decide) ?_
        refine r_aload_n (pc := 68) dX6_about_68 rfl rfl ?_
        refine fX6_13 (pc := 69) hF dX6_about_69 (fun b39 => ?_)
        obtain ⟨m40, x41, q42, h⟩ := gCl_some h
        refine r_callS (pc := 72) [.ref _] (tX6_credits _ _ _ hF _ _ _ _ q42 b39) ⟨rfl, rfl⟩ cd_X6_credits wX6_192 nm_X6_credits rfl (by rw [hRm]; decide) rfl (Nat.le_of_ble_eq_true rfl) dX6_about_72 ?_
        exact r_iretH dX6_about_75 h he
      refine r_sw h (fun g46 h => ?_) (fun g46 h => ?_)
      · refine r_tabIn (pc := 27) (tgt := 90) (v := 7) dX6_about_27 g46 (by decide) (by decide) rfl (by decide) ?_
        refine r_aload_n (pc := 90) dX6_about_90 rfl rfl ?_
        refine fX6_13 (pc := 91) hF dX6_about_91 (fun b44 => ?_)
        refine r_iload_n (pc := 94) dX6_about_94 rfl rfl ?_
        refine r_iconst (pc := 95) (v := 1) dX6_about_95 (by decide) ?_
        refine r_isub (pc := 96) dX6_about_96 ?_
        refine r_iald (pc := 97) dX6_about_97 b44 h (fun x45 h => ?_)
        exact r_iretH dX6_about_98 h he
      refine r_sw h (fun g49 h => ?_) (fun g49 h => ?_)
      · refine r_tabIn (pc := 27) (tgt := 90) (v := 8) dX6_about_27 g49 (by decide) (by decide) rfl (by decide) ?_
        refine r_aload_n (pc := 90) dX6_about_90 rfl rfl ?_
        refine fX6_13 (pc := 91) hF dX6_about_91 (fun b47 => ?_)
        refine r_iload_n (pc := 94) dX6_about_94 rfl rfl ?_
        refine r_iconst (pc := 95) (v := 1) dX6_about_95 (by decide) ?_
        refine r_isub (pc := 96) dX6_about_96 ?_
        refine r_iald (pc := 97) dX6_about_97 b47 h (fun x48 h => ?_)
        exact r_iretH dX6_about_98 h he
      refine r_sw h (fun g52 h => ?_) (fun g52 h => ?_)
      · refine r_tabIn (pc := 27) (tgt := 90) (v := 9) dX6_about_27 g52 (by decide) (by decide) rfl (by decide) ?_
        refine r_aload_n (pc := 90) dX6_about_90 rfl rfl ?_
        refine fX6_13 (pc := 91) hF dX6_about_91 (fun b50 => ?_)
        refine r_iload_n (pc := 94) dX6_about_94 rfl rfl ?_
        refine r_iconst (pc := 95) (v := 1) dX6_about_95 (by decide) ?_
        refine r_isub (pc := 96) dX6_about_96 ?_
        refine r_iald (pc := 97) dX6_about_97 b50 h (fun x51 h => ?_)
        exact r_iretH dX6_about_98 h he
      refine r_sw h (fun g55 h => ?_) (fun g55 h => ?_)
      · refine r_tabIn (pc := 27) (tgt := 90) (v := 10) dX6_about_27 g55 (by decide) (by decide) rfl (by decide) ?_
        refine r_aload_n (pc := 90) dX6_about_90 rfl rfl ?_
        refine fX6_13 (pc := 91) hF dX6_about_91 (fun b53 => ?_)
        refine r_iload_n (pc := 94) dX6_about_94 rfl rfl ?_
        refine r_iconst (pc := 95) (v := 1) dX6_about_95 (by decide) ?_
        refine r_isub (pc := 96) dX6_about_96 ?_
        refine r_iald (pc := 97) dX6_about_97 b53 h (fun x54 h => ?_)
        exact r_iretH dX6_about_98 h he
      refine r_sw h (fun g58 h => ?_) (fun g58 h => ?_)
      · refine r_tabIn (pc := 27) (tgt := 90) (v := 11) dX6_about_27 g58 (by decide) (by decide) rfl (by decide) ?_
        refine r_aload_n (pc := 90) dX6_about_90 rfl rfl ?_
        refine fX6_13 (pc := 91) hF dX6_about_91 (fun b56 => ?_)
        refine r_iload_n (pc := 94) dX6_about_94 rfl rfl ?_
        refine r_iconst (pc := 95) (v := 1) dX6_about_95 (by decide) ?_
        refine r_isub (pc := 96) dX6_about_96 ?_
        refine r_iald (pc := 97) dX6_about_97 b56 h (fun x57 h => ?_)
        exact r_iretH dX6_about_98 h he
      refine r_sw h (fun g65 h => ?_) (fun g65 h => ?_)
      · refine r_tabIn (pc := 27) (tgt := 76) (v := 12) dX6_about_27 g65 (by decide) (by decide) rfl (by decide) ?_
        refine r_aload_n (pc := 76) dX6_about_76 rfl rfl ?_
        refine fX6_13 (pc := 77) hF dX6_about_77 (fun b59 => ?_)
        refine r_aload_n (pc := 80) dX6_about_80 rfl rfl ?_
        refine fX6_13 (pc := 81) hF dX6_about_81 (fun b60 => ?_)
        refine r_iconst (pc := 84) (v := 1) dX6_about_84 (by decide) ?_
        refine r_iald (pc := 85) dX6_about_85 b60 h (fun x61 h => ?_)
        obtain ⟨m62, x63, q64, h⟩ := gCl_some h
        refine r_callS (pc := 86) [.ref _, .int _] (tX6_allDue _ _ _ hF _ _ _ _ _ q64 b59) ⟨rfl, rfl⟩ cd_X6_allDue wX6_64 nm_X6_allDue rfl (by rw [hRm]; decide) rfl (Nat.le_of_ble_eq_true rfl) dX6_about_86 ?_
        exact r_iretH dX6_about_89 h he
      have g43 := gNe g43 (z := 6) (by decide)
      have g46 := gNe g46 (z := 7) (by decide)
      have g49 := gNe g49 (z := 8) (by decide)
      have g52 := gNe g52 (z := 9) (by decide)
      have g55 := gNe g55 (z := 10) (by decide)
      have g58 := gNe g58 (z := 11) (by decide)
      have g65 := gNe g65 (z := 12) (by decide)
      refine r_tabOut (pc := 27) (tgt := 99) dX6_about_27 (by omega) (by decide) ?_
      refine r_aload_n (pc := 99) dX6_about_99 rfl rfl ?_
      refine fX6_13 (pc := 100) hF dX6_about_100 (fun b66 => ?_)
      refine r_iload_n (pc := 103) dX6_about_103 rfl rfl ?_
      refine r_iald (pc := 104) dX6_about_104 b66 h (fun x67 h => ?_)
      exact r_iretH dX6_about_105 h he
    · refine r_iconst (pc := 24) (v := 0) dX6_about_24 (by decide) ?_
      exact r_iretH dX6_about_25 h he
def fX6_nextDue_L4 (a0 : Nat) (a0n : Nat) (v1 : Int32) : Nat → Int32 → gM → Option (gM × Int32)
  | 0, _, _ => none
  | n + 1, v2, m => gRd m a0 a0n 1 fun x2 => (if (x2 + 200) < v2 then some (m, (-1)) else gCl (fX6_dueOn a0 a0n v1 v2 m) fun m3 x4 => (if x4 ≤ 0 then gLt (v2 + 1) fun x6 => fX6_nextDue_L4 a0 a0n v1 n x6 m3 else some (m3, v2)))
def fX6_nextDue (a1 a1n : Nat) (p2 : Int32) (m : gM) : Option (gM × Int32) := gRd m a1 a1n 1 fun x1 => fX6_nextDue_L4 a1 a1n p2 gFU x1 m
abbrev rmX6_nextDue : Room := { frames := 3, cells := 0, slots := 0, locals := 71 }
set_option maxHeartbeats 4000000 in
set_option maxRecDepth 100000 in
theorem tX6_nextDue (l : Launch) (G : gX) (u : gU) (hF : gFull u) (a1 a1n : Nat) (p2 : Int32) (m : gM) (o : gM × Int32) (h : fX6_nextDue a1 a1n p2 m = some o) (h1 : gIn u a1 7 a1n) : gMet l G u yX6_nextDue (.code yX6_nextDue cX6_nextDue 3 (some .int)) rmX6_nextDue [.ref a1, .int p2] m o.1 (some (.int o.2)) := by
  refine gMet_of (own := RX6) (k := 1) (by decide) rfl ⟨rfl, rfl⟩ (Nat.le_of_ble_eq_true rfl) [some (.ref a1), some (.int p2), none] rfl (fun Y hG hu hnL hLn hRm he => ?_)
  subst hG hu hLn
  unfold fX6_nextDue at h
  refine r_aload_n (pc := 0) dX6_nextDue_0 rfl rfl ?_
  refine r_iconst (pc := 1) (v := 1) dX6_nextDue_1 (by decide) ?_
  refine r_iald (pc := 2) dX6_nextDue_2 h1 h (fun x1 h => ?_)
  refine r_istore_n (pc := 3) dX6_nextDue_3 rfl (by rw [hnL]; decide) rfl ?_
  have L9 : ∀ (n7 : Nat) (v10 : Int32) (m11 : gM), fX6_nextDue_L4 a1 a1n p2 n7 v10 m11 = some o → AW Y cX6_nextDue RX6 4 [some (.ref a1), some (.int p2), some (.int v10)] [] m11 := by
    intro n7
    induction n7 with
    | zero =>
      intro v10 m11 h
      exact absurd h (by simp [fX6_nextDue_L4])
    | succ n7 ih8 =>
      intro v10 m11 h
      rw [fX6_nextDue_L4] at h
      refine r_iload_n (pc := 4) dX6_nextDue_4 rfl rfl ?_
      refine r_aload_n (pc := 5) dX6_nextDue_5 rfl rfl ?_
      refine r_iconst (pc := 6) (v := 1) dX6_nextDue_6 (by decide) ?_
      refine r_iald (pc := 7) dX6_nextDue_7 h1 h (fun x12 h => ?_)
      refine r_sipush (pc := 8) (v := 200) dX6_nextDue_8 (by decide) ?_
      refine r_iadd (pc := 11) dX6_nextDue_11 ?_
      refine r_icmp_gt (pc := 12) (tgt := 32) dX6_nextDue_12 (by decide) h (fun h => ?_) (fun h => ?_)
      · refine r_iconst (pc := 32) (v := (-1)) dX6_nextDue_32 (by decide) ?_
        exact r_iretH dX6_nextDue_33 h he
      · refine r_aload_n (pc := 15) dX6_nextDue_15 rfl rfl ?_
        refine r_iload_n (pc := 16) dX6_nextDue_16 rfl rfl ?_
        refine r_iload_n (pc := 17) dX6_nextDue_17 rfl rfl ?_
        obtain ⟨m13, x14, q15, h⟩ := gCl_some h
        refine r_callS (pc := 18) [.ref _, .int _, .int _] (tX6_dueOn _ _ _ hF _ _ _ _ _ _ q15 h1) ⟨rfl, rfl⟩ cd_X6_dueOn wX6_61 nm_X6_dueOn rfl (by rw [hRm]; decide) rfl (Nat.le_of_ble_eq_true rfl) dX6_nextDue_18 ?_
        refine r_if_le (pc := 21) (tgt := 26) dX6_nextDue_21 (by decide) h (fun h => ?_) (fun h => ?_)
        · refine r_iinc (pc := 26) (d := 1) dX6_nextDue_26 rfl (by decide) (by rw [hnL]; decide) h (fun x16 h => ?_)
          refine r_goto (pc := 29) (tgt := 4) dX6_nextDue_29 (by decide) ?_
          exact r_mask [true, true, true] rfl (ih8 _ _ h)
        · refine r_iload_n (pc := 24) dX6_nextDue_24 rfl rfl ?_
          exact r_iretH dX6_nextDue_25 h he
  exact r_mask [true, true, true] rfl (L9 _ _ _ h)
def fX6_customerOf_L46 (v1 : Int32) (v2 : Int32) : Nat → Int32 → Int32 → gM → Option (gM × Int32)
  | 0, _, _, _ => none
  | n + 1, v3, v4, m => (if 7 ≤ v4 then (if v2 = 0 then gCl (fX6_of 5824 258 v1 0 m) fun m12 x13 => some (m12, x13) else (if v2 = 1 then some (m, v3) else (if v2 = 9 then gRd m 5824 258 1 fun x19 => gCl (fX6_dueOn 5824 258 v1 x19 m) fun m20 x21 => some (m20, x21) else (if v2 = 10 then gCl (fX6_nextDue 5824 258 v1 m) fun m25 x26 => some (m25, x26) else gCl (fX6_of 5824 258 v1 (v2 + 6) m) fun m30 x31 => some (m30, x31))))) else gCl (fX6_of 5824 258 v1 (1 + v4) m) fun m34 x35 => gLt ((v3 + x35)) fun x37 => gLt (v4 + 1) fun x38 => fX6_customerOf_L46 v1 v2 n x37 x38 m34)
def fX6_customerOf (p1 : Int32) (p2 : Int32) (m : gM) : Option (gM × Int32) := gCl (fX6_isCustomer 5824 258 p1 m) fun m2 x3 => (if x3 = 0 then gCl (fX6_refused 1 m2) fun m110 x111 => (if x111 = 0 then fX6_customerOf_L46 p1 p2 gFU 0 0 m110 else some (m110, 0)) else gCl (fX6_in (p2.toInt64) 0 10 m2) fun m5 x6 => (if x6 = 0 then gCl (fX6_refused 2 m5) fun m8 x9 => (if x9 = 0 then fX6_customerOf_L46 p1 p2 gFU 0 0 m8 else some (m8, 0)) else gCl (fX6_refused 0 m5) fun m73 x74 => (if x74 = 0 then fX6_customerOf_L46 p1 p2 gFU 0 0 m73 else some (m73, 0))))
abbrev rmX6_customerOf : Room := { frames := 4, cells := 0, slots := 0, locals := 93 }
set_option maxHeartbeats 4000000 in
set_option maxRecDepth 100000 in
theorem tX6_customerOf (l : Launch) (G : gX) (u : gU) (hF : gFull u) (p1 : Int32) (p2 : Int32) (m : gM) (o : gM × Int32) (h : fX6_customerOf p1 p2 m = some o)  : gMet l G u yX6_customerOf (.code yX6_customerOf cX6_customerOf 5 (some .int)) rmX6_customerOf [.ref 5693, .int p1, .int p2] m o.1 (some (.int o.2)) := by
  refine gMet_of (own := RX6) (k := 2) (by decide) rfl ⟨rfl, rfl⟩ (Nat.le_of_ble_eq_true rfl) [some (.ref 5693), some (.int p1), some (.int p2), none, none] rfl (fun Y hG hu hnL hLn hRm he => ?_)
  subst hG hu hLn
  unfold fX6_customerOf at h
  refine r_aload_n (pc := 0) dX6_customerOf_0 rfl rfl ?_
  refine r_aload_n (pc := 1) dX6_customerOf_1 rfl rfl ?_
  refine fX6_13 (pc := 2) hF dX6_customerOf_2 (fun b1 => ?_)
  refine r_iload_n (pc := 5) dX6_customerOf_5 rfl rfl ?_
  obtain ⟨m2, x3, q4, h⟩ := gCl_some h
  refine r_callS (pc := 6) [.ref _, .int _] (tX6_isCustomer _ _ _ hF _ _ _ _ _ q4 b1) ⟨rfl, rfl⟩ cd_X6_isCustomer wX6_139 nm_X6_isCustomer rfl (by rw [hRm]; decide) rfl (Nat.le_of_ble_eq_true rfl) dX6_customerOf_6 ?_
  refine r_if_ne (pc := 9) (tgt := 16) dX6_customerOf_9 (by decide) h (fun h => ?_) (fun h => ?_)
  · refine r_iload_n (pc := 16) dX6_customerOf_16 rfl rfl ?_
    refine r_i2l (pc := 17) dX6_customerOf_17 ?_
    refine r_lconst (pc := 18) (v := 0) dX6_customerOf_18 (by decide) ?_
    refine r_ldc2 (pc := 19) (v := 10) dX6_customerOf_19 cX6_195 ?_
    obtain ⟨m5, x6, q7, h⟩ := gCl_some h
    refine r_callS (pc := 22) [.long _, .long _, .long _] (tX6_in _ _ _ hF _ _ _ _ _ q7) ⟨rfl, rfl⟩ cd_X6_in wX6_37 nm_X6_in rfl (by rw [hRm]; decide) rfl (Nat.le_of_ble_eq_true rfl) dX6_customerOf_22 ?_
    refine r_if_eq (pc := 25) (tgt := 32) dX6_customerOf_25 (by decide) h (fun h => ?_) (fun h => ?_)
    · refine r_iconst (pc := 32) (v := 2) dX6_customerOf_32 (by decide) ?_
      obtain ⟨m8, x9, q10, h⟩ := gCl_some h
      refine r_callV (kd := 5) (pc := 33) [.int _] (tX6_refused _ _ _ hF _ _ _ q10) ⟨rfl, rfl⟩ cd_X6_refused wX6_108 nm_X6_refused rfl (by rw [hRm]; decide) rfl (Nat.le_of_ble_eq_true rfl) rfl (by decide) (gO5 hF) dX6_customerOf_33 ?_
      refine r_if_eq (pc := 36) (tgt := 41) dX6_customerOf_36 (by decide) h (fun h => ?_) (fun h => ?_)
      · refine r_iconst (pc := 41) (v := 0) dX6_customerOf_41 (by decide) ?_
        refine r_istore_n (pc := 42) dX6_customerOf_42 rfl (by rw [hnL]; decide) rfl ?_
        refine r_iconst (pc := 43) (v := 0) dX6_customerOf_43 (by decide) ?_
        refine r_istore (pc := 44) dX6_customerOf_44 (by rw [hnL]; decide) rfl ?_
        have L41 : ∀ (n39 : Nat) (v42 : Int32) (v43 : Int32) (m44 : gM), fX6_customerOf_L46 p1 p2 n39 v42 v43 m44 = some o → AW Y cX6_customerOf RX6 46 [some (.ref 5693), some (.int p1), some (.int p2), some (.int v42), some (.int v43)] [] m44 := by
          intro n39
          induction n39 with
          | zero =>
            intro v42 v43 m44 h
            exact absurd h (by simp [fX6_customerOf_L46])
          | succ n39 ih40 =>
            intro v42 v43 m44 h
            rw [fX6_customerOf_L46] at h
            refine r_iload (pc := 46) dX6_customerOf_46 rfl ?_
            refine r_bipush (pc := 48) (v := 7) dX6_customerOf_48 (by decide) ?_
            refine r_icmp_ge (pc := 50) (tgt := 74) dX6_customerOf_50 (by decide) h (fun h => ?_) (fun h => ?_)
            · refine r_iload_n (pc := 74) dX6_customerOf_74 rfl rfl ?_
              refine r_sw h (fun g49 h => ?_) (fun g49 h => ?_)
              · refine r_lookup (pc := 75) (tgt := 116) dX6_customerOf_75 (by decide) (by rw [g49]; decide) (by decide) ?_
                refine r_aload_n (pc := 116) dX6_customerOf_116 rfl rfl ?_
                refine fX6_13 (pc := 117) hF dX6_customerOf_117 (fun b45 => ?_)
                refine r_iload_n (pc := 120) dX6_customerOf_120 rfl rfl ?_
                refine r_iconst (pc := 121) (v := 0) dX6_customerOf_121 (by decide) ?_
                obtain ⟨m46, x47, q48, h⟩ := gCl_some h
                refine r_callS (pc := 122) [.ref _, .int _, .int _] (tX6_of _ _ _ hF _ _ _ _ _ _ q48 b45) ⟨rfl, rfl⟩ cd_X6_of wX6_53 nm_X6_of rfl (by rw [hRm]; decide) rfl (Nat.le_of_ble_eq_true rfl) dX6_customerOf_122 ?_
                exact r_iretH dX6_customerOf_125 h he
              refine r_sw h (fun g50 h => ?_) (fun g50 h => ?_)
              · refine r_lookup (pc := 75) (tgt := 126) dX6_customerOf_75 (by decide) (by rw [g50]; decide) (by decide) ?_
                refine r_iload_n (pc := 126) dX6_customerOf_126 rfl rfl ?_
                exact r_iretH dX6_customerOf_127 h he
              refine r_sw h (fun g57 h => ?_) (fun g57 h => ?_)
              · refine r_lookup (pc := 75) (tgt := 128) dX6_customerOf_75 (by decide) (by rw [g57]; decide) (by decide) ?_
                refine r_aload_n (pc := 128) dX6_customerOf_128 rfl rfl ?_
                refine fX6_13 (pc := 129) hF dX6_customerOf_129 (fun b51 => ?_)
                refine r_iload_n (pc := 132) dX6_customerOf_132 rfl rfl ?_
                refine r_aload_n (pc := 133) dX6_customerOf_133 rfl rfl ?_
                refine fX6_13 (pc := 134) hF dX6_customerOf_134 (fun b52 => ?_)
                refine r_iconst (pc := 137) (v := 1) dX6_customerOf_137 (by decide) ?_
                refine r_iald (pc := 138) dX6_customerOf_138 b52 h (fun x53 h => ?_)
                obtain ⟨m54, x55, q56, h⟩ := gCl_some h
                refine r_callS (pc := 139) [.ref _, .int _, .int _] (tX6_dueOn _ _ _ hF _ _ _ _ _ _ q56 b51) ⟨rfl, rfl⟩ cd_X6_dueOn wX6_61 nm_X6_dueOn rfl (by rw [hRm]; decide) rfl (Nat.le_of_ble_eq_true rfl) dX6_customerOf_139 ?_
                exact r_iretH dX6_customerOf_142 h he
              refine r_sw h (fun g62 h => ?_) (fun g62 h => ?_)
              · refine r_lookup (pc := 75) (tgt := 143) dX6_customerOf_75 (by decide) (by rw [g62]; decide) (by decide) ?_
                refine r_aload_n (pc := 143) dX6_customerOf_143 rfl rfl ?_
                refine fX6_13 (pc := 144) hF dX6_customerOf_144 (fun b58 => ?_)
                refine r_iload_n (pc := 147) dX6_customerOf_147 rfl rfl ?_
                obtain ⟨m59, x60, q61, h⟩ := gCl_some h
                refine r_callS (pc := 148) [.ref _, .int _] (tX6_nextDue _ _ _ hF _ _ _ _ _ q61 b58) ⟨rfl, rfl⟩ cd_X6_nextDue wX6_197 nm_X6_nextDue rfl (by rw [hRm]; decide) rfl (Nat.le_of_ble_eq_true rfl) dX6_customerOf_148 ?_
                exact r_iretH dX6_customerOf_151 h he
              have g49 := gNe g49 (z := 0) (by decide)
              have g50 := gNe g50 (z := 1) (by decide)
              have g57 := gNe g57 (z := 9) (by decide)
              have g62 := gNe g62 (z := 10) (by decide)
              refine r_lookup (pc := 75) (tgt := 152) (off := 77) dX6_customerOf_75 (by decide) (by simp [Op.lookupswitch.offset, Ne.symm g49, Ne.symm g50, Ne.symm g57, Ne.symm g62]) (by decide) ?_
              refine r_aload_n (pc := 152) dX6_customerOf_152 rfl rfl ?_
              refine fX6_13 (pc := 153) hF dX6_customerOf_153 (fun b63 => ?_)
              refine r_iload_n (pc := 156) dX6_customerOf_156 rfl rfl ?_
              refine r_iload_n (pc := 157) dX6_customerOf_157 rfl rfl ?_
              refine r_bipush (pc := 158) (v := 6) dX6_customerOf_158 (by decide) ?_
              refine r_iadd (pc := 160) dX6_customerOf_160 ?_
              obtain ⟨m64, x65, q66, h⟩ := gCl_some h
              refine r_callS (pc := 161) [.ref _, .int _, .int _] (tX6_of _ _ _ hF _ _ _ _ _ _ q66 b63) ⟨rfl, rfl⟩ cd_X6_of wX6_53 nm_X6_of rfl (by rw [hRm]; decide) rfl (Nat.le_of_ble_eq_true rfl) dX6_customerOf_161 ?_
              exact r_iretH dX6_customerOf_164 h he
            · refine r_iload_n (pc := 53) dX6_customerOf_53 rfl rfl ?_
              refine r_aload_n (pc := 54) dX6_customerOf_54 rfl rfl ?_
              refine fX6_13 (pc := 55) hF dX6_customerOf_55 (fun b67 => ?_)
              refine r_iload_n (pc := 58) dX6_customerOf_58 rfl rfl ?_
              refine r_iconst (pc := 59) (v := 1) dX6_customerOf_59 (by decide) ?_
              refine r_iload (pc := 60) dX6_customerOf_60 rfl ?_
              refine r_iadd (pc := 62) dX6_customerOf_62 ?_
              obtain ⟨m68, x69, q70, h⟩ := gCl_some h
              refine r_callS (pc := 63) [.ref _, .int _, .int _] (tX6_of _ _ _ hF _ _ _ _ _ _ q70 b67) ⟨rfl, rfl⟩ cd_X6_of wX6_53 nm_X6_of rfl (by rw [hRm]; decide) rfl (Nat.le_of_ble_eq_true rfl) dX6_customerOf_63 ?_
              refine r_iadd (pc := 66) dX6_customerOf_66 ?_
              refine r_istore_nL (pc := 67) dX6_customerOf_67 rfl (by rw [hnL]; decide) h (fun x71 h => ?_)
              refine r_iinc (pc := 68) (d := 1) dX6_customerOf_68 rfl (by decide) (by rw [hnL]; decide) h (fun x72 h => ?_)
              refine r_goto (pc := 71) (tgt := 46) dX6_customerOf_71 (by decide) ?_
              exact r_mask [true, true, true, true, true] rfl (ih40 _ _ _ h)
        exact r_mask [true, true, true, true, true] rfl (L41 _ _ _ _ h)
      · refine r_iconst (pc := 39) (v := 0) dX6_customerOf_39 (by decide) ?_
        exact r_iretH dX6_customerOf_40 h he
    · refine r_iconst (pc := 28) (v := 0) dX6_customerOf_28 (by decide) ?_
      refine r_goto (pc := 29) (tgt := 33) dX6_customerOf_29 (by decide) ?_
      obtain ⟨m73, x74, q75, h⟩ := gCl_some h
      refine r_callV (kd := 5) (pc := 33) [.int _] (tX6_refused _ _ _ hF _ _ _ q75) ⟨rfl, rfl⟩ cd_X6_refused wX6_108 nm_X6_refused rfl (by rw [hRm]; decide) rfl (Nat.le_of_ble_eq_true rfl) rfl (by decide) (gO5 hF) dX6_customerOf_33 ?_
      refine r_if_eq (pc := 36) (tgt := 41) dX6_customerOf_36 (by decide) h (fun h => ?_) (fun h => ?_)
      · refine r_iconst (pc := 41) (v := 0) dX6_customerOf_41 (by decide) ?_
        refine r_istore_n (pc := 42) dX6_customerOf_42 rfl (by rw [hnL]; decide) rfl ?_
        refine r_iconst (pc := 43) (v := 0) dX6_customerOf_43 (by decide) ?_
        refine r_istore (pc := 44) dX6_customerOf_44 (by rw [hnL]; decide) rfl ?_
        have L78 : ∀ (n76 : Nat) (v79 : Int32) (v80 : Int32) (m81 : gM), fX6_customerOf_L46 p1 p2 n76 v79 v80 m81 = some o → AW Y cX6_customerOf RX6 46 [some (.ref 5693), some (.int p1), some (.int p2), some (.int v79), some (.int v80)] [] m81 := by
          intro n76
          induction n76 with
          | zero =>
            intro v79 v80 m81 h
            exact absurd h (by simp [fX6_customerOf_L46])
          | succ n76 ih77 =>
            intro v79 v80 m81 h
            rw [fX6_customerOf_L46] at h
            refine r_iload (pc := 46) dX6_customerOf_46 rfl ?_
            refine r_bipush (pc := 48) (v := 7) dX6_customerOf_48 (by decide) ?_
            refine r_icmp_ge (pc := 50) (tgt := 74) dX6_customerOf_50 (by decide) h (fun h => ?_) (fun h => ?_)
            · refine r_iload_n (pc := 74) dX6_customerOf_74 rfl rfl ?_
              refine r_sw h (fun g86 h => ?_) (fun g86 h => ?_)
              · refine r_lookup (pc := 75) (tgt := 116) dX6_customerOf_75 (by decide) (by rw [g86]; decide) (by decide) ?_
                refine r_aload_n (pc := 116) dX6_customerOf_116 rfl rfl ?_
                refine fX6_13 (pc := 117) hF dX6_customerOf_117 (fun b82 => ?_)
                refine r_iload_n (pc := 120) dX6_customerOf_120 rfl rfl ?_
                refine r_iconst (pc := 121) (v := 0) dX6_customerOf_121 (by decide) ?_
                obtain ⟨m83, x84, q85, h⟩ := gCl_some h
                refine r_callS (pc := 122) [.ref _, .int _, .int _] (tX6_of _ _ _ hF _ _ _ _ _ _ q85 b82) ⟨rfl, rfl⟩ cd_X6_of wX6_53 nm_X6_of rfl (by rw [hRm]; decide) rfl (Nat.le_of_ble_eq_true rfl) dX6_customerOf_122 ?_
                exact r_iretH dX6_customerOf_125 h he
              refine r_sw h (fun g87 h => ?_) (fun g87 h => ?_)
              · refine r_lookup (pc := 75) (tgt := 126) dX6_customerOf_75 (by decide) (by rw [g87]; decide) (by decide) ?_
                refine r_iload_n (pc := 126) dX6_customerOf_126 rfl rfl ?_
                exact r_iretH dX6_customerOf_127 h he
              refine r_sw h (fun g94 h => ?_) (fun g94 h => ?_)
              · refine r_lookup (pc := 75) (tgt := 128) dX6_customerOf_75 (by decide) (by rw [g94]; decide) (by decide) ?_
                refine r_aload_n (pc := 128) dX6_customerOf_128 rfl rfl ?_
                refine fX6_13 (pc := 129) hF dX6_customerOf_129 (fun b88 => ?_)
                refine r_iload_n (pc := 132) dX6_customerOf_132 rfl rfl ?_
                refine r_aload_n (pc := 133) dX6_customerOf_133 rfl rfl ?_
                refine fX6_13 (pc := 134) hF dX6_customerOf_134 (fun b89 => ?_)
                refine r_iconst (pc := 137) (v := 1) dX6_customerOf_137 (by decide) ?_
                refine r_iald (pc := 138) dX6_customerOf_138 b89 h (fun x90 h => ?_)
                obtain ⟨m91, x92, q93, h⟩ := gCl_some h
                refine r_callS (pc := 139) [.ref _, .int _, .int _] (tX6_dueOn _ _ _ hF _ _ _ _ _ _ q93 b88) ⟨rfl, rfl⟩ cd_X6_dueOn wX6_61 nm_X6_dueOn rfl (by rw [hRm]; decide) rfl (Nat.le_of_ble_eq_true rfl) dX6_customerOf_139 ?_
                exact r_iretH dX6_customerOf_142 h he
              refine r_sw h (fun g99 h => ?_) (fun g99 h => ?_)
              · refine r_lookup (pc := 75) (tgt := 143) dX6_customerOf_75 (by decide) (by rw [g99]; decide) (by decide) ?_
                refine r_aload_n (pc := 143) dX6_customerOf_143 rfl rfl ?_
                refine fX6_13 (pc := 144) hF dX6_customerOf_144 (fun b95 => ?_)
                refine r_iload_n (pc := 147) dX6_customerOf_147 rfl rfl ?_
                obtain ⟨m96, x97, q98, h⟩ := gCl_some h
                refine r_callS (pc := 148) [.ref _, .int _] (tX6_nextDue _ _ _ hF _ _ _ _ _ q98 b95) ⟨rfl, rfl⟩ cd_X6_nextDue wX6_197 nm_X6_nextDue rfl (by rw [hRm]; decide) rfl (Nat.le_of_ble_eq_true rfl) dX6_customerOf_148 ?_
                exact r_iretH dX6_customerOf_151 h he
              have g86 := gNe g86 (z := 0) (by decide)
              have g87 := gNe g87 (z := 1) (by decide)
              have g94 := gNe g94 (z := 9) (by decide)
              have g99 := gNe g99 (z := 10) (by decide)
              refine r_lookup (pc := 75) (tgt := 152) (off := 77) dX6_customerOf_75 (by decide) (by simp [Op.lookupswitch.offset, Ne.symm g86, Ne.symm g87, Ne.symm g94, Ne.symm g99]) (by decide) ?_
              refine r_aload_n (pc := 152) dX6_customerOf_152 rfl rfl ?_
              refine fX6_13 (pc := 153) hF dX6_customerOf_153 (fun b100 => ?_)
              refine r_iload_n (pc := 156) dX6_customerOf_156 rfl rfl ?_
              refine r_iload_n (pc := 157) dX6_customerOf_157 rfl rfl ?_
              refine r_bipush (pc := 158) (v := 6) dX6_customerOf_158 (by decide) ?_
              refine r_iadd (pc := 160) dX6_customerOf_160 ?_
              obtain ⟨m101, x102, q103, h⟩ := gCl_some h
              refine r_callS (pc := 161) [.ref _, .int _, .int _] (tX6_of _ _ _ hF _ _ _ _ _ _ q103 b100) ⟨rfl, rfl⟩ cd_X6_of wX6_53 nm_X6_of rfl (by rw [hRm]; decide) rfl (Nat.le_of_ble_eq_true rfl) dX6_customerOf_161 ?_
              exact r_iretH dX6_customerOf_164 h he
            · refine r_iload_n (pc := 53) dX6_customerOf_53 rfl rfl ?_
              refine r_aload_n (pc := 54) dX6_customerOf_54 rfl rfl ?_
              refine fX6_13 (pc := 55) hF dX6_customerOf_55 (fun b104 => ?_)
              refine r_iload_n (pc := 58) dX6_customerOf_58 rfl rfl ?_
              refine r_iconst (pc := 59) (v := 1) dX6_customerOf_59 (by decide) ?_
              refine r_iload (pc := 60) dX6_customerOf_60 rfl ?_
              refine r_iadd (pc := 62) dX6_customerOf_62 ?_
              obtain ⟨m105, x106, q107, h⟩ := gCl_some h
              refine r_callS (pc := 63) [.ref _, .int _, .int _] (tX6_of _ _ _ hF _ _ _ _ _ _ q107 b104) ⟨rfl, rfl⟩ cd_X6_of wX6_53 nm_X6_of rfl (by rw [hRm]; decide) rfl (Nat.le_of_ble_eq_true rfl) dX6_customerOf_63 ?_
              refine r_iadd (pc := 66) dX6_customerOf_66 ?_
              refine r_istore_nL (pc := 67) dX6_customerOf_67 rfl (by rw [hnL]; decide) h (fun x108 h => ?_)
              refine r_iinc (pc := 68) (d := 1) dX6_customerOf_68 rfl (by decide) (by rw [hnL]; decide) h (fun x109 h => ?_)
              refine r_goto (pc := 71) (tgt := 46) dX6_customerOf_71 (by decide) ?_
              exact r_mask [true, true, true, true, true] rfl (ih77 _ _ _ h)
        exact r_mask [true, true, true, true, true] rfl (L78 _ _ _ _ h)
      · refine r_iconst (pc := 39) (v := 0) dX6_customerOf_39 (by decide) ?_
        exact r_iretH dX6_customerOf_40 h he
  · refine r_iconst (pc := 12) (v := 1) dX6_customerOf_12 (by decide) ?_
    refine r_goto (pc := 13) (tgt := 33) dX6_customerOf_13 (by decide) ?_
    obtain ⟨m110, x111, q112, h⟩ := gCl_some h
    refine r_callV (kd := 5) (pc := 33) [.int _] (tX6_refused _ _ _ hF _ _ _ q112) ⟨rfl, rfl⟩ cd_X6_refused wX6_108 nm_X6_refused rfl (by rw [hRm]; decide) rfl (Nat.le_of_ble_eq_true rfl) rfl (by decide) (gO5 hF) dX6_customerOf_33 ?_
    refine r_if_eq (pc := 36) (tgt := 41) dX6_customerOf_36 (by decide) h (fun h => ?_) (fun h => ?_)
    · refine r_iconst (pc := 41) (v := 0) dX6_customerOf_41 (by decide) ?_
      refine r_istore_n (pc := 42) dX6_customerOf_42 rfl (by rw [hnL]; decide) rfl ?_
      refine r_iconst (pc := 43) (v := 0) dX6_customerOf_43 (by decide) ?_
      refine r_istore (pc := 44) dX6_customerOf_44 (by rw [hnL]; decide) rfl ?_
      have L115 : ∀ (n113 : Nat) (v116 : Int32) (v117 : Int32) (m118 : gM), fX6_customerOf_L46 p1 p2 n113 v116 v117 m118 = some o → AW Y cX6_customerOf RX6 46 [some (.ref 5693), some (.int p1), some (.int p2), some (.int v116), some (.int v117)] [] m118 := by
        intro n113
        induction n113 with
        | zero =>
          intro v116 v117 m118 h
          exact absurd h (by simp [fX6_customerOf_L46])
        | succ n113 ih114 =>
          intro v116 v117 m118 h
          rw [fX6_customerOf_L46] at h
          refine r_iload (pc := 46) dX6_customerOf_46 rfl ?_
          refine r_bipush (pc := 48) (v := 7) dX6_customerOf_48 (by decide) ?_
          refine r_icmp_ge (pc := 50) (tgt := 74) dX6_customerOf_50 (by decide) h (fun h => ?_) (fun h => ?_)
          · refine r_iload_n (pc := 74) dX6_customerOf_74 rfl rfl ?_
            refine r_sw h (fun g123 h => ?_) (fun g123 h => ?_)
            · refine r_lookup (pc := 75) (tgt := 116) dX6_customerOf_75 (by decide) (by rw [g123]; decide) (by decide) ?_
              refine r_aload_n (pc := 116) dX6_customerOf_116 rfl rfl ?_
              refine fX6_13 (pc := 117) hF dX6_customerOf_117 (fun b119 => ?_)
              refine r_iload_n (pc := 120) dX6_customerOf_120 rfl rfl ?_
              refine r_iconst (pc := 121) (v := 0) dX6_customerOf_121 (by decide) ?_
              obtain ⟨m120, x121, q122, h⟩ := gCl_some h
              refine r_callS (pc := 122) [.ref _, .int _, .int _] (tX6_of _ _ _ hF _ _ _ _ _ _ q122 b119) ⟨rfl, rfl⟩ cd_X6_of wX6_53 nm_X6_of rfl (by rw [hRm]; decide) rfl (Nat.le_of_ble_eq_true rfl) dX6_customerOf_122 ?_
              exact r_iretH dX6_customerOf_125 h he
            refine r_sw h (fun g124 h => ?_) (fun g124 h => ?_)
            · refine r_lookup (pc := 75) (tgt := 126) dX6_customerOf_75 (by decide) (by rw [g124]; decide) (by decide) ?_
              refine r_iload_n (pc := 126) dX6_customerOf_126 rfl rfl ?_
              exact r_iretH dX6_customerOf_127 h he
            refine r_sw h (fun g131 h => ?_) (fun g131 h => ?_)
            · refine r_lookup (pc := 75) (tgt := 128) dX6_customerOf_75 (by decide) (by rw [g131]; decide) (by decide) ?_
              refine r_aload_n (pc := 128) dX6_customerOf_128 rfl rfl ?_
              refine fX6_13 (pc := 129) hF dX6_customerOf_129 (fun b125 => ?_)
              refine r_iload_n (pc := 132) dX6_customerOf_132 rfl rfl ?_
              refine r_aload_n (pc := 133) dX6_customerOf_133 rfl rfl ?_
              refine fX6_13 (pc := 134) hF dX6_customerOf_134 (fun b126 => ?_)
              refine r_iconst (pc := 137) (v := 1) dX6_customerOf_137 (by decide) ?_
              refine r_iald (pc := 138) dX6_customerOf_138 b126 h (fun x127 h => ?_)
              obtain ⟨m128, x129, q130, h⟩ := gCl_some h
              refine r_callS (pc := 139) [.ref _, .int _, .int _] (tX6_dueOn _ _ _ hF _ _ _ _ _ _ q130 b125) ⟨rfl, rfl⟩ cd_X6_dueOn wX6_61 nm_X6_dueOn rfl (by rw [hRm]; decide) rfl (Nat.le_of_ble_eq_true rfl) dX6_customerOf_139 ?_
              exact r_iretH dX6_customerOf_142 h he
            refine r_sw h (fun g136 h => ?_) (fun g136 h => ?_)
            · refine r_lookup (pc := 75) (tgt := 143) dX6_customerOf_75 (by decide) (by rw [g136]; decide) (by decide) ?_
              refine r_aload_n (pc := 143) dX6_customerOf_143 rfl rfl ?_
              refine fX6_13 (pc := 144) hF dX6_customerOf_144 (fun b132 => ?_)
              refine r_iload_n (pc := 147) dX6_customerOf_147 rfl rfl ?_
              obtain ⟨m133, x134, q135, h⟩ := gCl_some h
              refine r_callS (pc := 148) [.ref _, .int _] (tX6_nextDue _ _ _ hF _ _ _ _ _ q135 b132) ⟨rfl, rfl⟩ cd_X6_nextDue wX6_197 nm_X6_nextDue rfl (by rw [hRm]; decide) rfl (Nat.le_of_ble_eq_true rfl) dX6_customerOf_148 ?_
              exact r_iretH dX6_customerOf_151 h he
            have g123 := gNe g123 (z := 0) (by decide)
            have g124 := gNe g124 (z := 1) (by decide)
            have g131 := gNe g131 (z := 9) (by decide)
            have g136 := gNe g136 (z := 10) (by decide)
            refine r_lookup (pc := 75) (tgt := 152) (off := 77) dX6_customerOf_75 (by decide) (by simp [Op.lookupswitch.offset, Ne.symm g123, Ne.symm g124, Ne.symm g131, Ne.symm g136]) (by decide) ?_
            refine r_aload_n (pc := 152) dX6_customerOf_152 rfl rfl ?_
            refine fX6_13 (pc := 153) hF dX6_customerOf_153 (fun b137 => ?_)
            refine r_iload_n (pc := 156) dX6_customerOf_156 rfl rfl ?_
            refine r_iload_n (pc := 157) dX6_customerOf_157 rfl rfl ?_
            refine r_bipush (pc := 158) (v := 6) dX6_customerOf_158 (by decide) ?_
            refine r_iadd (pc := 160) dX6_customerOf_160 ?_
            obtain ⟨m138, x139, q140, h⟩ := gCl_some h
            refine r_callS (pc := 161) [.ref _, .int _, .int _] (tX6_of _ _ _ hF _ _ _ _ _ _ q140 b137) ⟨rfl, rfl⟩ cd_X6_of wX6_53 nm_X6_of rfl (by rw [hRm]; decide) rfl (Nat.le_of_ble_eq_true rfl) dX6_customerOf_161 ?_
            exact r_iretH dX6_customerOf_164 h he
          · refine r_iload_n (pc := 53) dX6_customerOf_53 rfl rfl ?_
            refine r_aload_n (pc := 54) dX6_customerOf_54 rfl rfl ?_
            refine fX6_13 (pc := 55) hF dX6_customerOf_55 (fun b141 => ?_)
            refine r_iload_n (pc := 58) dX6_customerOf_58 rfl rfl ?_
            refine r_iconst (pc := 59) (v := 1) dX6_customerOf_59 (by decide) ?_
            refine r_iload (pc := 60) dX6_customerOf_60 rfl ?_
            refine r_iadd (pc := 62) dX6_customerOf_62 ?_
            obtain ⟨m142, x143, q144, h⟩ := gCl_some h
            refine r_callS (pc := 63) [.ref _, .int _, .int _] (tX6_of _ _ _ hF _ _ _ _ _ _ q144 b141) ⟨rfl, rfl⟩ cd_X6_of wX6_53 nm_X6_of rfl (by rw [hRm]; decide) rfl (Nat.le_of_ble_eq_true rfl) dX6_customerOf_63 ?_
            refine r_iadd (pc := 66) dX6_customerOf_66 ?_
            refine r_istore_nL (pc := 67) dX6_customerOf_67 rfl (by rw [hnL]; decide) h (fun x145 h => ?_)
            refine r_iinc (pc := 68) (d := 1) dX6_customerOf_68 rfl (by decide) (by rw [hnL]; decide) h (fun x146 h => ?_)
            refine r_goto (pc := 71) (tgt := 46) dX6_customerOf_71 (by decide) ?_
            exact r_mask [true, true, true, true, true] rfl (ih114 _ _ _ h)
      exact r_mask [true, true, true, true, true] rfl (L115 _ _ _ _ h)
    · refine r_iconst (pc := 39) (v := 0) dX6_customerOf_39 (by decide) ?_
      exact r_iretH dX6_customerOf_40 h he
def fX6_ordered (p1 : Int32) (p2 : Int32) (m : gM) : Option (gM × Int32) := gCl (fX6_isCustomer 5824 258 p1 m) fun m2 x3 => (if x3 = 0 then gCl (fX6_refused 1 m2) fun m5 x6 => (if x6 = 0 then gCl (fX6_of 5824 258 p1 (1 + p2) m5) fun m9 x10 => some (m9, x10) else some (m5, 0)) else gCl (fX6_isWeekday p2 m2) fun m12 x13 => (if x13 = 0 then gCl (fX6_refused 1 m12) fun m15 x16 => (if x16 = 0 then gCl (fX6_of 5824 258 p1 (1 + p2) m15) fun m19 x20 => some (m19, x20) else some (m15, 0)) else gCl (fX6_refused 0 m12) fun m22 x23 => (if x23 = 0 then gCl (fX6_of 5824 258 p1 (1 + p2) m22) fun m26 x27 => some (m26, x27) else some (m22, 0))))
abbrev rmX6_ordered : Room := { frames := 2, cells := 0, slots := 0, locals := 46 }
set_option maxHeartbeats 4000000 in
set_option maxRecDepth 100000 in
theorem tX6_ordered (l : Launch) (G : gX) (u : gU) (hF : gFull u) (p1 : Int32) (p2 : Int32) (m : gM) (o : gM × Int32) (h : fX6_ordered p1 p2 m = some o)  : gMet l G u yX6_ordered (.code yX6_ordered cX6_ordered 3 (some .int)) rmX6_ordered [.ref 5693, .int p1, .int p2] m o.1 (some (.int o.2)) := by
  refine gMet_of (own := RX6) (k := 0) (by decide) rfl ⟨rfl, rfl⟩ (Nat.le_of_ble_eq_true rfl) [some (.ref 5693), some (.int p1), some (.int p2)] rfl (fun Y hG hu hnL hLn hRm he => ?_)
  subst hG hu hLn
  unfold fX6_ordered at h
  refine r_aload_n (pc := 0) dX6_ordered_0 rfl rfl ?_
  refine r_aload_n (pc := 1) dX6_ordered_1 rfl rfl ?_
  refine fX6_13 (pc := 2) hF dX6_ordered_2 (fun b1 => ?_)
  refine r_iload_n (pc := 5) dX6_ordered_5 rfl rfl ?_
  obtain ⟨m2, x3, q4, h⟩ := gCl_some h
  refine r_callS (pc := 6) [.ref _, .int _] (tX6_isCustomer _ _ _ hF _ _ _ _ _ q4 b1) ⟨rfl, rfl⟩ cd_X6_isCustomer wX6_139 nm_X6_isCustomer rfl (by rw [hRm]; decide) rfl (Nat.le_of_ble_eq_true rfl) dX6_ordered_6 ?_
  refine r_if_eq (pc := 9) (tgt := 23) dX6_ordered_9 (by decide) h (fun h => ?_) (fun h => ?_)
  · refine r_iconst (pc := 23) (v := 1) dX6_ordered_23 (by decide) ?_
    obtain ⟨m5, x6, q7, h⟩ := gCl_some h
    refine r_callV (kd := 5) (pc := 24) [.int _] (tX6_refused _ _ _ hF _ _ _ q7) ⟨rfl, rfl⟩ cd_X6_refused wX6_108 nm_X6_refused rfl (by rw [hRm]; decide) rfl (Nat.le_of_ble_eq_true rfl) rfl (by decide) (gO5 hF) dX6_ordered_24 ?_
    refine r_if_eq (pc := 27) (tgt := 32) dX6_ordered_27 (by decide) h (fun h => ?_) (fun h => ?_)
    · refine r_aload_n (pc := 32) dX6_ordered_32 rfl rfl ?_
      refine fX6_13 (pc := 33) hF dX6_ordered_33 (fun b8 => ?_)
      refine r_iload_n (pc := 36) dX6_ordered_36 rfl rfl ?_
      refine r_iconst (pc := 37) (v := 1) dX6_ordered_37 (by decide) ?_
      refine r_iload_n (pc := 38) dX6_ordered_38 rfl rfl ?_
      refine r_iadd (pc := 39) dX6_ordered_39 ?_
      obtain ⟨m9, x10, q11, h⟩ := gCl_some h
      refine r_callS (pc := 40) [.ref _, .int _, .int _] (tX6_of _ _ _ hF _ _ _ _ _ _ q11 b8) ⟨rfl, rfl⟩ cd_X6_of wX6_53 nm_X6_of rfl (by rw [hRm]; decide) rfl (Nat.le_of_ble_eq_true rfl) dX6_ordered_40 ?_
      exact r_iretH dX6_ordered_43 h he
    · refine r_iconst (pc := 30) (v := 0) dX6_ordered_30 (by decide) ?_
      exact r_iretH dX6_ordered_31 h he
  · refine r_iload_n (pc := 12) dX6_ordered_12 rfl rfl ?_
    obtain ⟨m12, x13, q14, h⟩ := gCl_some h
    refine r_callS (pc := 13) [.int _] (tX6_isWeekday _ _ _ hF _ _ _ q14) ⟨rfl, rfl⟩ cd_X6_isWeekday wX6_200 nm_X6_isWeekday rfl (by rw [hRm]; decide) rfl (Nat.le_of_ble_eq_true rfl) dX6_ordered_13 ?_
    refine r_if_eq (pc := 16) (tgt := 23) dX6_ordered_16 (by decide) h (fun h => ?_) (fun h => ?_)
    · refine r_iconst (pc := 23) (v := 1) dX6_ordered_23 (by decide) ?_
      obtain ⟨m15, x16, q17, h⟩ := gCl_some h
      refine r_callV (kd := 5) (pc := 24) [.int _] (tX6_refused _ _ _ hF _ _ _ q17) ⟨rfl, rfl⟩ cd_X6_refused wX6_108 nm_X6_refused rfl (by rw [hRm]; decide) rfl (Nat.le_of_ble_eq_true rfl) rfl (by decide) (gO5 hF) dX6_ordered_24 ?_
      refine r_if_eq (pc := 27) (tgt := 32) dX6_ordered_27 (by decide) h (fun h => ?_) (fun h => ?_)
      · refine r_aload_n (pc := 32) dX6_ordered_32 rfl rfl ?_
        refine fX6_13 (pc := 33) hF dX6_ordered_33 (fun b18 => ?_)
        refine r_iload_n (pc := 36) dX6_ordered_36 rfl rfl ?_
        refine r_iconst (pc := 37) (v := 1) dX6_ordered_37 (by decide) ?_
        refine r_iload_n (pc := 38) dX6_ordered_38 rfl rfl ?_
        refine r_iadd (pc := 39) dX6_ordered_39 ?_
        obtain ⟨m19, x20, q21, h⟩ := gCl_some h
        refine r_callS (pc := 40) [.ref _, .int _, .int _] (tX6_of _ _ _ hF _ _ _ _ _ _ q21 b18) ⟨rfl, rfl⟩ cd_X6_of wX6_53 nm_X6_of rfl (by rw [hRm]; decide) rfl (Nat.le_of_ble_eq_true rfl) dX6_ordered_40 ?_
        exact r_iretH dX6_ordered_43 h he
      · refine r_iconst (pc := 30) (v := 0) dX6_ordered_30 (by decide) ?_
        exact r_iretH dX6_ordered_31 h he
    · refine r_iconst (pc := 19) (v := 0) dX6_ordered_19 (by decide) ?_
      refine r_goto (pc := 20) (tgt := 24) dX6_ordered_20 (by decide) ?_
      obtain ⟨m22, x23, q24, h⟩ := gCl_some h
      refine r_callV (kd := 5) (pc := 24) [.int _] (tX6_refused _ _ _ hF _ _ _ q24) ⟨rfl, rfl⟩ cd_X6_refused wX6_108 nm_X6_refused rfl (by rw [hRm]; decide) rfl (Nat.le_of_ble_eq_true rfl) rfl (by decide) (gO5 hF) dX6_ordered_24 ?_
      refine r_if_eq (pc := 27) (tgt := 32) dX6_ordered_27 (by decide) h (fun h => ?_) (fun h => ?_)
      · refine r_aload_n (pc := 32) dX6_ordered_32 rfl rfl ?_
        refine fX6_13 (pc := 33) hF dX6_ordered_33 (fun b25 => ?_)
        refine r_iload_n (pc := 36) dX6_ordered_36 rfl rfl ?_
        refine r_iconst (pc := 37) (v := 1) dX6_ordered_37 (by decide) ?_
        refine r_iload_n (pc := 38) dX6_ordered_38 rfl rfl ?_
        refine r_iadd (pc := 39) dX6_ordered_39 ?_
        obtain ⟨m26, x27, q28, h⟩ := gCl_some h
        refine r_callS (pc := 40) [.ref _, .int _, .int _] (tX6_of _ _ _ hF _ _ _ _ _ _ q28 b25) ⟨rfl, rfl⟩ cd_X6_of wX6_53 nm_X6_of rfl (by rw [hRm]; decide) rfl (Nat.le_of_ble_eq_true rfl) dX6_ordered_40 ?_
        exact r_iretH dX6_ordered_43 h he
      · refine r_iconst (pc := 30) (v := 0) dX6_ordered_30 (by decide) ?_
        exact r_iretH dX6_ordered_31 h he
def fX6_away (p1 : Int32) (p2 : Int32) (p3 : Int32) (m : gM) : Option (gM × Int32) := gCl (fX6_isCustomer 5824 258 p1 m) fun m2 x3 => (if x3 = 0 then gCl (fX6_refused 1 m2) fun m5 x6 => (if x6 = 0 then gCl (fX6_of 5824 258 p1 14 m5) fun m9 x10 => (if x10 ≤ p2 then some (m9, (-1)) else gCl (fX6_of 5824 258 p1 ((15 + (2 * p2)) + p3) m9) fun m13 x14 => some (m13, x14)) else some (m5, 0)) else gCl (fX6_in (p2.toInt64) 0 2 m2) fun m16 x17 => (if x17 = 0 then gCl (fX6_refused 1 m16) fun m44 x45 => (if x45 = 0 then gCl (fX6_of 5824 258 p1 14 m44) fun m48 x49 => (if x49 ≤ p2 then some (m48, (-1)) else gCl (fX6_of 5824 258 p1 ((15 + (2 * p2)) + p3) m48) fun m52 x53 => some (m52, x53)) else some (m44, 0)) else gCl (fX6_in (p3.toInt64) 0 1 m16) fun m19 x20 => (if x20 = 0 then gCl (fX6_refused 2 m19) fun m22 x23 => (if x23 = 0 then gCl (fX6_of 5824 258 p1 14 m22) fun m26 x27 => (if x27 ≤ p2 then some (m26, (-1)) else gCl (fX6_of 5824 258 p1 ((15 + (2 * p2)) + p3) m26) fun m30 x31 => some (m30, x31)) else some (m22, 0)) else gCl (fX6_refused 0 m19) fun m33 x34 => (if x34 = 0 then gCl (fX6_of 5824 258 p1 14 m33) fun m37 x38 => (if x38 ≤ p2 then some (m37, (-1)) else gCl (fX6_of 5824 258 p1 ((15 + (2 * p2)) + p3) m37) fun m41 x42 => some (m41, x42)) else some (m33, 0)))))
abbrev rmX6_away : Room := { frames := 2, cells := 0, slots := 0, locals := 46 }
set_option maxHeartbeats 4000000 in
set_option maxRecDepth 100000 in
theorem tX6_away (l : Launch) (G : gX) (u : gU) (hF : gFull u) (p1 : Int32) (p2 : Int32) (p3 : Int32) (m : gM) (o : gM × Int32) (h : fX6_away p1 p2 p3 m = some o)  : gMet l G u yX6_away (.code yX6_away cX6_away 4 (some .int)) rmX6_away [.ref 5693, .int p1, .int p2, .int p3] m o.1 (some (.int o.2)) := by
  refine gMet_of (own := RX6) (k := 0) (by decide) rfl ⟨rfl, rfl⟩ (Nat.le_of_ble_eq_true rfl) [some (.ref 5693), some (.int p1), some (.int p2), some (.int p3)] rfl (fun Y hG hu hnL hLn hRm he => ?_)
  subst hG hu hLn
  unfold fX6_away at h
  refine r_aload_n (pc := 0) dX6_away_0 rfl rfl ?_
  refine r_aload_n (pc := 1) dX6_away_1 rfl rfl ?_
  refine fX6_13 (pc := 2) hF dX6_away_2 (fun b1 => ?_)
  refine r_iload_n (pc := 5) dX6_away_5 rfl rfl ?_
  obtain ⟨m2, x3, q4, h⟩ := gCl_some h
  refine r_callS (pc := 6) [.ref _, .int _] (tX6_isCustomer _ _ _ hF _ _ _ _ _ q4 b1) ⟨rfl, rfl⟩ cd_X6_isCustomer wX6_139 nm_X6_isCustomer rfl (by rw [hRm]; decide) rfl (Nat.le_of_ble_eq_true rfl) dX6_away_6 ?_
  refine r_if_eq (pc := 9) (tgt := 24) dX6_away_9 (by decide) h (fun h => ?_) (fun h => ?_)
  · refine r_iconst (pc := 24) (v := 1) dX6_away_24 (by decide) ?_
    refine r_goto (pc := 25) (tgt := 43) dX6_away_25 (by decide) ?_
    obtain ⟨m5, x6, q7, h⟩ := gCl_some h
    refine r_callV (kd := 5) (pc := 43) [.int _] (tX6_refused _ _ _ hF _ _ _ q7) ⟨rfl, rfl⟩ cd_X6_refused wX6_108 nm_X6_refused rfl (by rw [hRm]; decide) rfl (Nat.le_of_ble_eq_true rfl) rfl (by decide) (gO5 hF) dX6_away_43 ?_
    refine r_if_eq (pc := 46) (tgt := 51) dX6_away_46 (by decide) h (fun h => ?_) (fun h => ?_)
    · refine r_iload_n (pc := 51) dX6_away_51 rfl rfl ?_
      refine r_aload_n (pc := 52) dX6_away_52 rfl rfl ?_
      refine fX6_13 (pc := 53) hF dX6_away_53 (fun b8 => ?_)
      refine r_iload_n (pc := 56) dX6_away_56 rfl rfl ?_
      refine r_bipush (pc := 57) (v := 14) dX6_away_57 (by decide) ?_
      obtain ⟨m9, x10, q11, h⟩ := gCl_some h
      refine r_callS (pc := 59) [.ref _, .int _, .int _] (tX6_of _ _ _ hF _ _ _ _ _ _ q11 b8) ⟨rfl, rfl⟩ cd_X6_of wX6_53 nm_X6_of rfl (by rw [hRm]; decide) rfl (Nat.le_of_ble_eq_true rfl) dX6_away_59 ?_
      refine r_icmp_ge (pc := 62) (tgt := 84) dX6_away_62 (by decide) h (fun h => ?_) (fun h => ?_)
      · refine r_iconst (pc := 84) (v := (-1)) dX6_away_84 (by decide) ?_
        exact r_iretH dX6_away_85 h he
      · refine r_aload_n (pc := 65) dX6_away_65 rfl rfl ?_
        refine fX6_13 (pc := 66) hF dX6_away_66 (fun b12 => ?_)
        refine r_iload_n (pc := 69) dX6_away_69 rfl rfl ?_
        refine r_bipush (pc := 70) (v := 15) dX6_away_70 (by decide) ?_
        refine r_iconst (pc := 72) (v := 2) dX6_away_72 (by decide) ?_
        refine r_iload_n (pc := 73) dX6_away_73 rfl rfl ?_
        refine r_imul (pc := 74) dX6_away_74 ?_
        refine r_iadd (pc := 75) dX6_away_75 ?_
        refine r_iload_n (pc := 76) dX6_away_76 rfl rfl ?_
        refine r_iadd (pc := 77) dX6_away_77 ?_
        obtain ⟨m13, x14, q15, h⟩ := gCl_some h
        refine r_callS (pc := 78) [.ref _, .int _, .int _] (tX6_of _ _ _ hF _ _ _ _ _ _ q15 b12) ⟨rfl, rfl⟩ cd_X6_of wX6_53 nm_X6_of rfl (by rw [hRm]; decide) rfl (Nat.le_of_ble_eq_true rfl) dX6_away_78 ?_
        refine r_goto (pc := 81) (tgt := 85) dX6_away_81 (by decide) ?_
        exact r_iretH dX6_away_85 h he
    · refine r_iconst (pc := 49) (v := 0) dX6_away_49 (by decide) ?_
      exact r_iretH dX6_away_50 h he
  · refine r_iload_n (pc := 12) dX6_away_12 rfl rfl ?_
    refine r_i2l (pc := 13) dX6_away_13 ?_
    refine r_lconst (pc := 14) (v := 0) dX6_away_14 (by decide) ?_
    refine r_ldc2 (pc := 15) (v := 2) dX6_away_15 cX6_203 ?_
    obtain ⟨m16, x17, q18, h⟩ := gCl_some h
    refine r_callS (pc := 18) [.long _, .long _, .long _] (tX6_in _ _ _ hF _ _ _ _ _ q18) ⟨rfl, rfl⟩ cd_X6_in wX6_37 nm_X6_in rfl (by rw [hRm]; decide) rfl (Nat.le_of_ble_eq_true rfl) dX6_away_18 ?_
    refine r_if_ne (pc := 21) (tgt := 28) dX6_away_21 (by decide) h (fun h => ?_) (fun h => ?_)
    · refine r_iload_n (pc := 28) dX6_away_28 rfl rfl ?_
      refine r_i2l (pc := 29) dX6_away_29 ?_
      refine r_lconst (pc := 30) (v := 0) dX6_away_30 (by decide) ?_
      refine r_lconst (pc := 31) (v := 1) dX6_away_31 (by decide) ?_
      obtain ⟨m19, x20, q21, h⟩ := gCl_some h
      refine r_callS (pc := 32) [.long _, .long _, .long _] (tX6_in _ _ _ hF _ _ _ _ _ q21) ⟨rfl, rfl⟩ cd_X6_in wX6_37 nm_X6_in rfl (by rw [hRm]; decide) rfl (Nat.le_of_ble_eq_true rfl) dX6_away_32 ?_
      refine r_if_eq (pc := 35) (tgt := 42) dX6_away_35 (by decide) h (fun h => ?_) (fun h => ?_)
      · refine r_iconst (pc := 42) (v := 2) dX6_away_42 (by decide) ?_
        obtain ⟨m22, x23, q24, h⟩ := gCl_some h
        refine r_callV (kd := 5) (pc := 43) [.int _] (tX6_refused _ _ _ hF _ _ _ q24) ⟨rfl, rfl⟩ cd_X6_refused wX6_108 nm_X6_refused rfl (by rw [hRm]; decide) rfl (Nat.le_of_ble_eq_true rfl) rfl (by decide) (gO5 hF) dX6_away_43 ?_
        refine r_if_eq (pc := 46) (tgt := 51) dX6_away_46 (by decide) h (fun h => ?_) (fun h => ?_)
        · refine r_iload_n (pc := 51) dX6_away_51 rfl rfl ?_
          refine r_aload_n (pc := 52) dX6_away_52 rfl rfl ?_
          refine fX6_13 (pc := 53) hF dX6_away_53 (fun b25 => ?_)
          refine r_iload_n (pc := 56) dX6_away_56 rfl rfl ?_
          refine r_bipush (pc := 57) (v := 14) dX6_away_57 (by decide) ?_
          obtain ⟨m26, x27, q28, h⟩ := gCl_some h
          refine r_callS (pc := 59) [.ref _, .int _, .int _] (tX6_of _ _ _ hF _ _ _ _ _ _ q28 b25) ⟨rfl, rfl⟩ cd_X6_of wX6_53 nm_X6_of rfl (by rw [hRm]; decide) rfl (Nat.le_of_ble_eq_true rfl) dX6_away_59 ?_
          refine r_icmp_ge (pc := 62) (tgt := 84) dX6_away_62 (by decide) h (fun h => ?_) (fun h => ?_)
          · refine r_iconst (pc := 84) (v := (-1)) dX6_away_84 (by decide) ?_
            exact r_iretH dX6_away_85 h he
          · refine r_aload_n (pc := 65) dX6_away_65 rfl rfl ?_
            refine fX6_13 (pc := 66) hF dX6_away_66 (fun b29 => ?_)
            refine r_iload_n (pc := 69) dX6_away_69 rfl rfl ?_
            refine r_bipush (pc := 70) (v := 15) dX6_away_70 (by decide) ?_
            refine r_iconst (pc := 72) (v := 2) dX6_away_72 (by decide) ?_
            refine r_iload_n (pc := 73) dX6_away_73 rfl rfl ?_
            refine r_imul (pc := 74) dX6_away_74 ?_
            refine r_iadd (pc := 75) dX6_away_75 ?_
            refine r_iload_n (pc := 76) dX6_away_76 rfl rfl ?_
            refine r_iadd (pc := 77) dX6_away_77 ?_
            obtain ⟨m30, x31, q32, h⟩ := gCl_some h
            refine r_callS (pc := 78) [.ref _, .int _, .int _] (tX6_of _ _ _ hF _ _ _ _ _ _ q32 b29) ⟨rfl, rfl⟩ cd_X6_of wX6_53 nm_X6_of rfl (by rw [hRm]; decide) rfl (Nat.le_of_ble_eq_true rfl) dX6_away_78 ?_
            refine r_goto (pc := 81) (tgt := 85) dX6_away_81 (by decide) ?_
            exact r_iretH dX6_away_85 h he
        · refine r_iconst (pc := 49) (v := 0) dX6_away_49 (by decide) ?_
          exact r_iretH dX6_away_50 h he
      · refine r_iconst (pc := 38) (v := 0) dX6_away_38 (by decide) ?_
        refine r_goto (pc := 39) (tgt := 43) dX6_away_39 (by decide) ?_
        obtain ⟨m33, x34, q35, h⟩ := gCl_some h
        refine r_callV (kd := 5) (pc := 43) [.int _] (tX6_refused _ _ _ hF _ _ _ q35) ⟨rfl, rfl⟩ cd_X6_refused wX6_108 nm_X6_refused rfl (by rw [hRm]; decide) rfl (Nat.le_of_ble_eq_true rfl) rfl (by decide) (gO5 hF) dX6_away_43 ?_
        refine r_if_eq (pc := 46) (tgt := 51) dX6_away_46 (by decide) h (fun h => ?_) (fun h => ?_)
        · refine r_iload_n (pc := 51) dX6_away_51 rfl rfl ?_
          refine r_aload_n (pc := 52) dX6_away_52 rfl rfl ?_
          refine fX6_13 (pc := 53) hF dX6_away_53 (fun b36 => ?_)
          refine r_iload_n (pc := 56) dX6_away_56 rfl rfl ?_
          refine r_bipush (pc := 57) (v := 14) dX6_away_57 (by decide) ?_
          obtain ⟨m37, x38, q39, h⟩ := gCl_some h
          refine r_callS (pc := 59) [.ref _, .int _, .int _] (tX6_of _ _ _ hF _ _ _ _ _ _ q39 b36) ⟨rfl, rfl⟩ cd_X6_of wX6_53 nm_X6_of rfl (by rw [hRm]; decide) rfl (Nat.le_of_ble_eq_true rfl) dX6_away_59 ?_
          refine r_icmp_ge (pc := 62) (tgt := 84) dX6_away_62 (by decide) h (fun h => ?_) (fun h => ?_)
          · refine r_iconst (pc := 84) (v := (-1)) dX6_away_84 (by decide) ?_
            exact r_iretH dX6_away_85 h he
          · refine r_aload_n (pc := 65) dX6_away_65 rfl rfl ?_
            refine fX6_13 (pc := 66) hF dX6_away_66 (fun b40 => ?_)
            refine r_iload_n (pc := 69) dX6_away_69 rfl rfl ?_
            refine r_bipush (pc := 70) (v := 15) dX6_away_70 (by decide) ?_
            refine r_iconst (pc := 72) (v := 2) dX6_away_72 (by decide) ?_
            refine r_iload_n (pc := 73) dX6_away_73 rfl rfl ?_
            refine r_imul (pc := 74) dX6_away_74 ?_
            refine r_iadd (pc := 75) dX6_away_75 ?_
            refine r_iload_n (pc := 76) dX6_away_76 rfl rfl ?_
            refine r_iadd (pc := 77) dX6_away_77 ?_
            obtain ⟨m41, x42, q43, h⟩ := gCl_some h
            refine r_callS (pc := 78) [.ref _, .int _, .int _] (tX6_of _ _ _ hF _ _ _ _ _ _ q43 b40) ⟨rfl, rfl⟩ cd_X6_of wX6_53 nm_X6_of rfl (by rw [hRm]; decide) rfl (Nat.le_of_ble_eq_true rfl) dX6_away_78 ?_
            refine r_goto (pc := 81) (tgt := 85) dX6_away_81 (by decide) ?_
            exact r_iretH dX6_away_85 h he
        · refine r_iconst (pc := 49) (v := 0) dX6_away_49 (by decide) ?_
          exact r_iretH dX6_away_50 h he
    · refine r_iconst (pc := 24) (v := 1) dX6_away_24 (by decide) ?_
      refine r_goto (pc := 25) (tgt := 43) dX6_away_25 (by decide) ?_
      obtain ⟨m44, x45, q46, h⟩ := gCl_some h
      refine r_callV (kd := 5) (pc := 43) [.int _] (tX6_refused _ _ _ hF _ _ _ q46) ⟨rfl, rfl⟩ cd_X6_refused wX6_108 nm_X6_refused rfl (by rw [hRm]; decide) rfl (Nat.le_of_ble_eq_true rfl) rfl (by decide) (gO5 hF) dX6_away_43 ?_
      refine r_if_eq (pc := 46) (tgt := 51) dX6_away_46 (by decide) h (fun h => ?_) (fun h => ?_)
      · refine r_iload_n (pc := 51) dX6_away_51 rfl rfl ?_
        refine r_aload_n (pc := 52) dX6_away_52 rfl rfl ?_
        refine fX6_13 (pc := 53) hF dX6_away_53 (fun b47 => ?_)
        refine r_iload_n (pc := 56) dX6_away_56 rfl rfl ?_
        refine r_bipush (pc := 57) (v := 14) dX6_away_57 (by decide) ?_
        obtain ⟨m48, x49, q50, h⟩ := gCl_some h
        refine r_callS (pc := 59) [.ref _, .int _, .int _] (tX6_of _ _ _ hF _ _ _ _ _ _ q50 b47) ⟨rfl, rfl⟩ cd_X6_of wX6_53 nm_X6_of rfl (by rw [hRm]; decide) rfl (Nat.le_of_ble_eq_true rfl) dX6_away_59 ?_
        refine r_icmp_ge (pc := 62) (tgt := 84) dX6_away_62 (by decide) h (fun h => ?_) (fun h => ?_)
        · refine r_iconst (pc := 84) (v := (-1)) dX6_away_84 (by decide) ?_
          exact r_iretH dX6_away_85 h he
        · refine r_aload_n (pc := 65) dX6_away_65 rfl rfl ?_
          refine fX6_13 (pc := 66) hF dX6_away_66 (fun b51 => ?_)
          refine r_iload_n (pc := 69) dX6_away_69 rfl rfl ?_
          refine r_bipush (pc := 70) (v := 15) dX6_away_70 (by decide) ?_
          refine r_iconst (pc := 72) (v := 2) dX6_away_72 (by decide) ?_
          refine r_iload_n (pc := 73) dX6_away_73 rfl rfl ?_
          refine r_imul (pc := 74) dX6_away_74 ?_
          refine r_iadd (pc := 75) dX6_away_75 ?_
          refine r_iload_n (pc := 76) dX6_away_76 rfl rfl ?_
          refine r_iadd (pc := 77) dX6_away_77 ?_
          obtain ⟨m52, x53, q54, h⟩ := gCl_some h
          refine r_callS (pc := 78) [.ref _, .int _, .int _] (tX6_of _ _ _ hF _ _ _ _ _ _ q54 b51) ⟨rfl, rfl⟩ cd_X6_of wX6_53 nm_X6_of rfl (by rw [hRm]; decide) rfl (Nat.le_of_ble_eq_true rfl) dX6_away_78 ?_
          refine r_goto (pc := 81) (tgt := 85) dX6_away_81 (by decide) ?_
          exact r_iretH dX6_away_85 h he
      · refine r_iconst (pc := 49) (v := 0) dX6_away_49 (by decide) ?_
        exact r_iretH dX6_away_50 h he
def fX6_isClosed (p1 : Int32) (p2 : Int32) (m : gM) : Option (gM × Int32) := gCl (fX6_isStreet p1 m) fun m1 x2 => (if x2 = 0 then gCl (fX6_refused 1 m1) fun m4 x5 => (if x5 = 0 then gRd m4 5824 258 ((20 + (7 * p1)) + p2) fun x8 => some (m4, x8) else some (m4, 0)) else gCl (fX6_isWeekday p2 m1) fun m9 x10 => (if x10 = 0 then gCl (fX6_refused 1 m9) fun m12 x13 => (if x13 = 0 then gRd m12 5824 258 ((20 + (7 * p1)) + p2) fun x16 => some (m12, x16) else some (m12, 0)) else gCl (fX6_refused 0 m9) fun m17 x18 => (if x18 = 0 then gRd m17 5824 258 ((20 + (7 * p1)) + p2) fun x21 => some (m17, x21) else some (m17, 0))))
abbrev rmX6_isClosed : Room := { frames := 2, cells := 0, slots := 0, locals := 45 }
set_option maxHeartbeats 4000000 in
set_option maxRecDepth 100000 in
theorem tX6_isClosed (l : Launch) (G : gX) (u : gU) (hF : gFull u) (p1 : Int32) (p2 : Int32) (m : gM) (o : gM × Int32) (h : fX6_isClosed p1 p2 m = some o)  : gMet l G u yX6_isClosed (.code yX6_isClosed cX6_isClosed 3 (some .int)) rmX6_isClosed [.ref 5693, .int p1, .int p2] m o.1 (some (.int o.2)) := by
  refine gMet_of (own := RX6) (k := 0) (by decide) rfl ⟨rfl, rfl⟩ (Nat.le_of_ble_eq_true rfl) [some (.ref 5693), some (.int p1), some (.int p2)] rfl (fun Y hG hu hnL hLn hRm he => ?_)
  subst hG hu hLn
  unfold fX6_isClosed at h
  refine r_aload_n (pc := 0) dX6_isClosed_0 rfl rfl ?_
  refine r_iload_n (pc := 1) dX6_isClosed_1 rfl rfl ?_
  obtain ⟨m1, x2, q3, h⟩ := gCl_some h
  refine r_callS (pc := 2) [.int _] (tX6_isStreet _ _ _ hF _ _ _ q3) ⟨rfl, rfl⟩ cd_X6_isStreet wX6_205 nm_X6_isStreet rfl (by rw [hRm]; decide) rfl (Nat.le_of_ble_eq_true rfl) dX6_isClosed_2 ?_
  refine r_if_eq (pc := 5) (tgt := 19) dX6_isClosed_5 (by decide) h (fun h => ?_) (fun h => ?_)
  · refine r_iconst (pc := 19) (v := 1) dX6_isClosed_19 (by decide) ?_
    obtain ⟨m4, x5, q6, h⟩ := gCl_some h
    refine r_callV (kd := 5) (pc := 20) [.int _] (tX6_refused _ _ _ hF _ _ _ q6) ⟨rfl, rfl⟩ cd_X6_refused wX6_108 nm_X6_refused rfl (by rw [hRm]; decide) rfl (Nat.le_of_ble_eq_true rfl) rfl (by decide) (gO5 hF) dX6_isClosed_20 ?_
    refine r_if_eq (pc := 23) (tgt := 28) dX6_isClosed_23 (by decide) h (fun h => ?_) (fun h => ?_)
    · refine r_aload_n (pc := 28) dX6_isClosed_28 rfl rfl ?_
      refine fX6_13 (pc := 29) hF dX6_isClosed_29 (fun b7 => ?_)
      refine r_bipush (pc := 32) (v := 20) dX6_isClosed_32 (by decide) ?_
      refine r_bipush (pc := 34) (v := 7) dX6_isClosed_34 (by decide) ?_
      refine r_iload_n (pc := 36) dX6_isClosed_36 rfl rfl ?_
      refine r_imul (pc := 37) dX6_isClosed_37 ?_
      refine r_iadd (pc := 38) dX6_isClosed_38 ?_
      refine r_iload_n (pc := 39) dX6_isClosed_39 rfl rfl ?_
      refine r_iadd (pc := 40) dX6_isClosed_40 ?_
      refine r_iald (pc := 41) dX6_isClosed_41 b7 h (fun x8 h => ?_)
      exact r_iretH dX6_isClosed_42 h he
    · refine r_iconst (pc := 26) (v := 0) dX6_isClosed_26 (by decide) ?_
      exact r_iretH dX6_isClosed_27 h he
  · refine r_iload_n (pc := 8) dX6_isClosed_8 rfl rfl ?_
    obtain ⟨m9, x10, q11, h⟩ := gCl_some h
    refine r_callS (pc := 9) [.int _] (tX6_isWeekday _ _ _ hF _ _ _ q11) ⟨rfl, rfl⟩ cd_X6_isWeekday wX6_200 nm_X6_isWeekday rfl (by rw [hRm]; decide) rfl (Nat.le_of_ble_eq_true rfl) dX6_isClosed_9 ?_
    refine r_if_eq (pc := 12) (tgt := 19) dX6_isClosed_12 (by decide) h (fun h => ?_) (fun h => ?_)
    · refine r_iconst (pc := 19) (v := 1) dX6_isClosed_19 (by decide) ?_
      obtain ⟨m12, x13, q14, h⟩ := gCl_some h
      refine r_callV (kd := 5) (pc := 20) [.int _] (tX6_refused _ _ _ hF _ _ _ q14) ⟨rfl, rfl⟩ cd_X6_refused wX6_108 nm_X6_refused rfl (by rw [hRm]; decide) rfl (Nat.le_of_ble_eq_true rfl) rfl (by decide) (gO5 hF) dX6_isClosed_20 ?_
      refine r_if_eq (pc := 23) (tgt := 28) dX6_isClosed_23 (by decide) h (fun h => ?_) (fun h => ?_)
      · refine r_aload_n (pc := 28) dX6_isClosed_28 rfl rfl ?_
        refine fX6_13 (pc := 29) hF dX6_isClosed_29 (fun b15 => ?_)
        refine r_bipush (pc := 32) (v := 20) dX6_isClosed_32 (by decide) ?_
        refine r_bipush (pc := 34) (v := 7) dX6_isClosed_34 (by decide) ?_
        refine r_iload_n (pc := 36) dX6_isClosed_36 rfl rfl ?_
        refine r_imul (pc := 37) dX6_isClosed_37 ?_
        refine r_iadd (pc := 38) dX6_isClosed_38 ?_
        refine r_iload_n (pc := 39) dX6_isClosed_39 rfl rfl ?_
        refine r_iadd (pc := 40) dX6_isClosed_40 ?_
        refine r_iald (pc := 41) dX6_isClosed_41 b15 h (fun x16 h => ?_)
        exact r_iretH dX6_isClosed_42 h he
      · refine r_iconst (pc := 26) (v := 0) dX6_isClosed_26 (by decide) ?_
        exact r_iretH dX6_isClosed_27 h he
    · refine r_iconst (pc := 15) (v := 0) dX6_isClosed_15 (by decide) ?_
      refine r_goto (pc := 16) (tgt := 20) dX6_isClosed_16 (by decide) ?_
      obtain ⟨m17, x18, q19, h⟩ := gCl_some h
      refine r_callV (kd := 5) (pc := 20) [.int _] (tX6_refused _ _ _ hF _ _ _ q19) ⟨rfl, rfl⟩ cd_X6_refused wX6_108 nm_X6_refused rfl (by rw [hRm]; decide) rfl (Nat.le_of_ble_eq_true rfl) rfl (by decide) (gO5 hF) dX6_isClosed_20 ?_
      refine r_if_eq (pc := 23) (tgt := 28) dX6_isClosed_23 (by decide) h (fun h => ?_) (fun h => ?_)
      · refine r_aload_n (pc := 28) dX6_isClosed_28 rfl rfl ?_
        refine fX6_13 (pc := 29) hF dX6_isClosed_29 (fun b20 => ?_)
        refine r_bipush (pc := 32) (v := 20) dX6_isClosed_32 (by decide) ?_
        refine r_bipush (pc := 34) (v := 7) dX6_isClosed_34 (by decide) ?_
        refine r_iload_n (pc := 36) dX6_isClosed_36 rfl rfl ?_
        refine r_imul (pc := 37) dX6_isClosed_37 ?_
        refine r_iadd (pc := 38) dX6_isClosed_38 ?_
        refine r_iload_n (pc := 39) dX6_isClosed_39 rfl rfl ?_
        refine r_iadd (pc := 40) dX6_isClosed_40 ?_
        refine r_iald (pc := 41) dX6_isClosed_41 b20 h (fun x21 h => ?_)
        exact r_iretH dX6_isClosed_42 h he
      · refine r_iconst (pc := 26) (v := 0) dX6_isClosed_26 (by decide) ?_
        exact r_iretH dX6_isClosed_27 h he
def fX6_round (p1 : Int32) (m : gM) : Option (gM × Int32) := gCl (fX6_isStreet p1 m) fun m1 x2 => (if x2 = 0 then gCl (fX6_refused 1 m1) fun m4 x5 => (if x5 = 0 then gRd m4 5824 258 (16 + p1) fun x8 => some (m4, x8) else some (m4, 0)) else gCl (fX6_refused 0 m1) fun m9 x10 => (if x10 = 0 then gRd m9 5824 258 (16 + p1) fun x13 => some (m9, x13) else some (m9, 0)))
abbrev rmX6_round : Room := { frames := 2, cells := 0, slots := 0, locals := 45 }
set_option maxHeartbeats 4000000 in
set_option maxRecDepth 100000 in
theorem tX6_round (l : Launch) (G : gX) (u : gU) (hF : gFull u) (p1 : Int32) (m : gM) (o : gM × Int32) (h : fX6_round p1 m = some o)  : gMet l G u yX6_round (.code yX6_round cX6_round 2 (some .int)) rmX6_round [.ref 5693, .int p1] m o.1 (some (.int o.2)) := by
  refine gMet_of (own := RX6) (k := 0) (by decide) rfl ⟨rfl, rfl⟩ (Nat.le_of_ble_eq_true rfl) [some (.ref 5693), some (.int p1)] rfl (fun Y hG hu hnL hLn hRm he => ?_)
  subst hG hu hLn
  unfold fX6_round at h
  refine r_aload_n (pc := 0) dX6_round_0 rfl rfl ?_
  refine r_iload_n (pc := 1) dX6_round_1 rfl rfl ?_
  obtain ⟨m1, x2, q3, h⟩ := gCl_some h
  refine r_callS (pc := 2) [.int _] (tX6_isStreet _ _ _ hF _ _ _ q3) ⟨rfl, rfl⟩ cd_X6_isStreet wX6_205 nm_X6_isStreet rfl (by rw [hRm]; decide) rfl (Nat.le_of_ble_eq_true rfl) dX6_round_2 ?_
  refine r_if_eq (pc := 5) (tgt := 12) dX6_round_5 (by decide) h (fun h => ?_) (fun h => ?_)
  · refine r_iconst (pc := 12) (v := 1) dX6_round_12 (by decide) ?_
    obtain ⟨m4, x5, q6, h⟩ := gCl_some h
    refine r_callV (kd := 5) (pc := 13) [.int _] (tX6_refused _ _ _ hF _ _ _ q6) ⟨rfl, rfl⟩ cd_X6_refused wX6_108 nm_X6_refused rfl (by rw [hRm]; decide) rfl (Nat.le_of_ble_eq_true rfl) rfl (by decide) (gO5 hF) dX6_round_13 ?_
    refine r_if_eq (pc := 16) (tgt := 21) dX6_round_16 (by decide) h (fun h => ?_) (fun h => ?_)
    · refine r_aload_n (pc := 21) dX6_round_21 rfl rfl ?_
      refine fX6_13 (pc := 22) hF dX6_round_22 (fun b7 => ?_)
      refine r_bipush (pc := 25) (v := 16) dX6_round_25 (by decide) ?_
      refine r_iload_n (pc := 27) dX6_round_27 rfl rfl ?_
      refine r_iadd (pc := 28) dX6_round_28 ?_
      refine r_iald (pc := 29) dX6_round_29 b7 h (fun x8 h => ?_)
      exact r_iretH dX6_round_30 h he
    · refine r_iconst (pc := 19) (v := 0) dX6_round_19 (by decide) ?_
      exact r_iretH dX6_round_20 h he
  · refine r_iconst (pc := 8) (v := 0) dX6_round_8 (by decide) ?_
    refine r_goto (pc := 9) (tgt := 13) dX6_round_9 (by decide) ?_
    obtain ⟨m9, x10, q11, h⟩ := gCl_some h
    refine r_callV (kd := 5) (pc := 13) [.int _] (tX6_refused _ _ _ hF _ _ _ q11) ⟨rfl, rfl⟩ cd_X6_refused wX6_108 nm_X6_refused rfl (by rw [hRm]; decide) rfl (Nat.le_of_ble_eq_true rfl) rfl (by decide) (gO5 hF) dX6_round_13 ?_
    refine r_if_eq (pc := 16) (tgt := 21) dX6_round_16 (by decide) h (fun h => ?_) (fun h => ?_)
    · refine r_aload_n (pc := 21) dX6_round_21 rfl rfl ?_
      refine fX6_13 (pc := 22) hF dX6_round_22 (fun b12 => ?_)
      refine r_bipush (pc := 25) (v := 16) dX6_round_25 (by decide) ?_
      refine r_iload_n (pc := 27) dX6_round_27 rfl rfl ?_
      refine r_iadd (pc := 28) dX6_round_28 ?_
      refine r_iald (pc := 29) dX6_round_29 b12 h (fun x13 h => ?_)
      exact r_iretH dX6_round_30 h he
    · refine r_iconst (pc := 19) (v := 0) dX6_round_19 (by decide) ?_
      exact r_iretH dX6_round_20 h he
def fX6_setting (p1 : Int32) (m : gM) : Option (gM × Int32) := gCl (fX6_in (p1.toInt64) 0 4 m) fun m1 x2 => (if x2 = 0 then gCl (fX6_refused 1 m1) fun m4 x5 => (if x5 = 0 then gRd m4 5824 258 (11 + p1) fun x8 => some (m4, x8) else some (m4, 0)) else gCl (fX6_refused 0 m1) fun m9 x10 => (if x10 = 0 then gRd m9 5824 258 (11 + p1) fun x13 => some (m9, x13) else some (m9, 0)))
abbrev rmX6_setting : Room := { frames := 1, cells := 0, slots := 0, locals := 25 }
set_option maxHeartbeats 4000000 in
set_option maxRecDepth 100000 in
theorem tX6_setting (l : Launch) (G : gX) (u : gU) (hF : gFull u) (p1 : Int32) (m : gM) (o : gM × Int32) (h : fX6_setting p1 m = some o)  : gMet l G u yX6_setting (.code yX6_setting cX6_setting 2 (some .int)) rmX6_setting [.ref 5693, .int p1] m o.1 (some (.int o.2)) := by
  refine gMet_of (own := RX6) (k := 0) (by decide) rfl ⟨rfl, rfl⟩ (Nat.le_of_ble_eq_true rfl) [some (.ref 5693), some (.int p1)] rfl (fun Y hG hu hnL hLn hRm he => ?_)
  subst hG hu hLn
  unfold fX6_setting at h
  refine r_aload_n (pc := 0) dX6_setting_0 rfl rfl ?_
  refine r_iload_n (pc := 1) dX6_setting_1 rfl rfl ?_
  refine r_i2l (pc := 2) dX6_setting_2 ?_
  refine r_lconst (pc := 3) (v := 0) dX6_setting_3 (by decide) ?_
  refine r_ldc2 (pc := 4) (v := 4) dX6_setting_4 cX6_208 ?_
  obtain ⟨m1, x2, q3, h⟩ := gCl_some h
  refine r_callS (pc := 7) [.long _, .long _, .long _] (tX6_in _ _ _ hF _ _ _ _ _ q3) ⟨rfl, rfl⟩ cd_X6_in wX6_37 nm_X6_in rfl (by rw [hRm]; decide) rfl (Nat.le_of_ble_eq_true rfl) dX6_setting_7 ?_
  refine r_if_eq (pc := 10) (tgt := 17) dX6_setting_10 (by decide) h (fun h => ?_) (fun h => ?_)
  · refine r_iconst (pc := 17) (v := 1) dX6_setting_17 (by decide) ?_
    obtain ⟨m4, x5, q6, h⟩ := gCl_some h
    refine r_callV (kd := 5) (pc := 18) [.int _] (tX6_refused _ _ _ hF _ _ _ q6) ⟨rfl, rfl⟩ cd_X6_refused wX6_108 nm_X6_refused rfl (by rw [hRm]; decide) rfl (Nat.le_of_ble_eq_true rfl) rfl (by decide) (gO5 hF) dX6_setting_18 ?_
    refine r_if_eq (pc := 21) (tgt := 26) dX6_setting_21 (by decide) h (fun h => ?_) (fun h => ?_)
    · refine r_aload_n (pc := 26) dX6_setting_26 rfl rfl ?_
      refine fX6_13 (pc := 27) hF dX6_setting_27 (fun b7 => ?_)
      refine r_bipush (pc := 30) (v := 11) dX6_setting_30 (by decide) ?_
      refine r_iload_n (pc := 32) dX6_setting_32 rfl rfl ?_
      refine r_iadd (pc := 33) dX6_setting_33 ?_
      refine r_iald (pc := 34) dX6_setting_34 b7 h (fun x8 h => ?_)
      exact r_iretH dX6_setting_35 h he
    · refine r_iconst (pc := 24) (v := 0) dX6_setting_24 (by decide) ?_
      exact r_iretH dX6_setting_25 h he
  · refine r_iconst (pc := 13) (v := 0) dX6_setting_13 (by decide) ?_
    refine r_goto (pc := 14) (tgt := 18) dX6_setting_14 (by decide) ?_
    obtain ⟨m9, x10, q11, h⟩ := gCl_some h
    refine r_callV (kd := 5) (pc := 18) [.int _] (tX6_refused _ _ _ hF _ _ _ q11) ⟨rfl, rfl⟩ cd_X6_refused wX6_108 nm_X6_refused rfl (by rw [hRm]; decide) rfl (Nat.le_of_ble_eq_true rfl) rfl (by decide) (gO5 hF) dX6_setting_18 ?_
    refine r_if_eq (pc := 21) (tgt := 26) dX6_setting_21 (by decide) h (fun h => ?_) (fun h => ?_)
    · refine r_aload_n (pc := 26) dX6_setting_26 rfl rfl ?_
      refine fX6_13 (pc := 27) hF dX6_setting_27 (fun b12 => ?_)
      refine r_bipush (pc := 30) (v := 11) dX6_setting_30 (by decide) ?_
      refine r_iload_n (pc := 32) dX6_setting_32 rfl rfl ?_
      refine r_iadd (pc := 33) dX6_setting_33 ?_
      refine r_iald (pc := 34) dX6_setting_34 b12 h (fun x13 h => ?_)
      exact r_iretH dX6_setting_35 h he
    · refine r_iconst (pc := 24) (v := 0) dX6_setting_24 (by decide) ?_
      exact r_iretH dX6_setting_25 h he
def fX6_due_L70 (v1 : Int32) (v2 : Int32) (v3 : Int32) : Nat → Int32 → Int32 → gM → Option (gM × Int32)
  | 0, _, _, _ => none
  | n + 1, v5, v6, m => (if (v2 + v3) ≤ v6 then some (m, v5) else gCl (fX6_dueOn 5824 258 v1 v6 m) fun m12 x13 => gLt ((v5 + x13)) fun x15 => gLt (v6 + 1) fun x16 => fX6_due_L70 v1 v2 v3 n x15 x16 m12)
def fX6_due (p1 : Int32) (p2 : Int32) (p3 : Int32) (p4 : Int32) (m : gM) : Option (gM × Int32) := gCl (fX6_isCustomer 5824 258 p1 m) fun m2 x3 => (if x3 = 0 then gCl (fX6_refused 1 m2) fun m80 x81 => (if x81 = 0 then fX6_due_L70 p1 p2 p3 gFU 0 p2 m80 else some (m80, 0)) else gCl (fX6_in (p2.toInt64) 0 999 m2) fun m5 x6 => (if x6 = 0 then gCl (fX6_refused 2 m5) fun m8 x9 => (if x9 = 0 then fX6_due_L70 p1 p2 p3 gFU 0 p2 m8 else some (m8, 0)) else gCl (fX6_in (p3.toInt64) 0 500 m5) fun m29 x30 => (if x30 = 0 then gCl (fX6_refused 2 m29) fun m32 x33 => (if x33 = 0 then fX6_due_L70 p1 p2 p3 gFU 0 p2 m32 else some (m32, 0)) else gCl (fX6_in (p4.toInt64) 0 1 m29) fun m47 x48 => (if x48 = 0 then gCl (fX6_refused 2 m47) fun m50 x51 => (if x51 = 0 then fX6_due_L70 p1 p2 p3 gFU 0 p2 m50 else some (m50, 0)) else gCl (fX6_refused 0 m47) fun m65 x66 => (if x66 = 0 then fX6_due_L70 p1 p2 p3 gFU 0 p2 m65 else some (m65, 0))))))
abbrev rmX6_due : Room := { frames := 3, cells := 0, slots := 0, locals := 71 }
set_option maxHeartbeats 4000000 in
set_option maxRecDepth 100000 in
theorem tX6_due (l : Launch) (G : gX) (u : gU) (hF : gFull u) (p1 : Int32) (p2 : Int32) (p3 : Int32) (p4 : Int32) (m : gM) (o : gM × Int32) (h : fX6_due p1 p2 p3 p4 m = some o)  : gMet l G u yX6_due (.code yX6_due cX6_due 7 (some .int)) rmX6_due [.ref 5693, .int p1, .int p2, .int p3, .int p4] m o.1 (some (.int o.2)) := by
  refine gMet_of (own := RX6) (k := 2) (by decide) rfl ⟨rfl, rfl⟩ (Nat.le_of_ble_eq_true rfl) [some (.ref 5693), some (.int p1), some (.int p2), some (.int p3), some (.int p4), none, none] rfl (fun Y hG hu hnL hLn hRm he => ?_)
  subst hG hu hLn
  unfold fX6_due at h
  refine r_aload_n (pc := 0) dX6_due_0 rfl rfl ?_
  refine r_aload_n (pc := 1) dX6_due_1 rfl rfl ?_
  refine fX6_13 (pc := 2) hF dX6_due_2 (fun b1 => ?_)
  refine r_iload_n (pc := 5) dX6_due_5 rfl rfl ?_
  obtain ⟨m2, x3, q4, h⟩ := gCl_some h
  refine r_callS (pc := 6) [.ref _, .int _] (tX6_isCustomer _ _ _ hF _ _ _ _ _ q4 b1) ⟨rfl, rfl⟩ cd_X6_isCustomer wX6_139 nm_X6_isCustomer rfl (by rw [hRm]; decide) rfl (Nat.le_of_ble_eq_true rfl) dX6_due_6 ?_
  refine r_if_ne (pc := 9) (tgt := 16) dX6_due_9 (by decide) h (fun h => ?_) (fun h => ?_)
  · refine r_iload_n (pc := 16) dX6_due_16 rfl rfl ?_
    refine r_i2l (pc := 17) dX6_due_17 ?_
    refine r_lconst (pc := 18) (v := 0) dX6_due_18 (by decide) ?_
    refine r_ldc2 (pc := 19) (v := 999) dX6_due_19 cX6_98 ?_
    obtain ⟨m5, x6, q7, h⟩ := gCl_some h
    refine r_callS (pc := 22) [.long _, .long _, .long _] (tX6_in _ _ _ hF _ _ _ _ _ q7) ⟨rfl, rfl⟩ cd_X6_in wX6_37 nm_X6_in rfl (by rw [hRm]; decide) rfl (Nat.le_of_ble_eq_true rfl) dX6_due_22 ?_
    refine r_if_eq (pc := 25) (tgt := 55) dX6_due_25 (by decide) h (fun h => ?_) (fun h => ?_)
    · refine r_iconst (pc := 55) (v := 2) dX6_due_55 (by decide) ?_
      obtain ⟨m8, x9, q10, h⟩ := gCl_some h
      refine r_callV (kd := 5) (pc := 56) [.int _] (tX6_refused _ _ _ hF _ _ _ q10) ⟨rfl, rfl⟩ cd_X6_refused wX6_108 nm_X6_refused rfl (by rw [hRm]; decide) rfl (Nat.le_of_ble_eq_true rfl) rfl (by decide) (gO5 hF) dX6_due_56 ?_
      refine r_if_eq (pc := 59) (tgt := 64) dX6_due_59 (by decide) h (fun h => ?_) (fun h => ?_)
      · refine r_iconst (pc := 64) (v := 0) dX6_due_64 (by decide) ?_
        refine r_istore (pc := 65) dX6_due_65 (by rw [hnL]; decide) rfl ?_
        refine r_iload_n (pc := 67) dX6_due_67 rfl rfl ?_
        refine r_istore (pc := 68) dX6_due_68 (by rw [hnL]; decide) rfl ?_
        have L19 : ∀ (n17 : Nat) (v20 : Int32) (v21 : Int32) (m22 : gM), fX6_due_L70 p1 p2 p3 n17 v20 v21 m22 = some o → AW Y cX6_due RX6 70 [some (.ref 5693), some (.int p1), some (.int p2), some (.int p3), none, some (.int v20), some (.int v21)] [] m22 := by
          intro n17
          induction n17 with
          | zero =>
            intro v20 v21 m22 h
            exact absurd h (by simp [fX6_due_L70])
          | succ n17 ih18 =>
            intro v20 v21 m22 h
            rw [fX6_due_L70] at h
            refine r_iload (pc := 70) dX6_due_70 rfl ?_
            refine r_iload_n (pc := 72) dX6_due_72 rfl rfl ?_
            refine r_iload_n (pc := 73) dX6_due_73 rfl rfl ?_
            refine r_iadd (pc := 74) dX6_due_74 ?_
            refine r_icmp_ge (pc := 75) (tgt := 99) dX6_due_75 (by decide) h (fun h => ?_) (fun h => ?_)
            · refine r_iload (pc := 99) dX6_due_99 rfl ?_
              exact r_iretH dX6_due_101 h he
            · refine r_iload (pc := 78) dX6_due_78 rfl ?_
              refine r_aload_n (pc := 80) dX6_due_80 rfl rfl ?_
              refine fX6_13 (pc := 81) hF dX6_due_81 (fun b23 => ?_)
              refine r_iload_n (pc := 84) dX6_due_84 rfl rfl ?_
              refine r_iload (pc := 85) dX6_due_85 rfl ?_
              obtain ⟨m24, x25, q26, h⟩ := gCl_some h
              refine r_callS (pc := 87) [.ref _, .int _, .int _] (tX6_dueOn _ _ _ hF _ _ _ _ _ _ q26 b23) ⟨rfl, rfl⟩ cd_X6_dueOn wX6_61 nm_X6_dueOn rfl (by rw [hRm]; decide) rfl (Nat.le_of_ble_eq_true rfl) dX6_due_87 ?_
              refine r_iadd (pc := 90) dX6_due_90 ?_
              refine r_istoreL (pc := 91) dX6_due_91 (by rw [hnL]; decide) h (fun x27 h => ?_)
              refine r_iinc (pc := 93) (d := 1) dX6_due_93 rfl (by decide) (by rw [hnL]; decide) h (fun x28 h => ?_)
              refine r_goto (pc := 96) (tgt := 70) dX6_due_96 (by decide) ?_
              exact r_mask [true, true, true, true, false, true, true] rfl (ih18 _ _ _ h)
        exact r_mask [true, true, true, true, false, true, true] rfl (L19 _ _ _ _ h)
      · refine r_iconst (pc := 62) (v := 0) dX6_due_62 (by decide) ?_
        exact r_iretH dX6_due_63 h he
    · refine r_iload_n (pc := 28) dX6_due_28 rfl rfl ?_
      refine r_i2l (pc := 29) dX6_due_29 ?_
      refine r_lconst (pc := 30) (v := 0) dX6_due_30 (by decide) ?_
      refine r_ldc2 (pc := 31) (v := 500) dX6_due_31 cX6_210 ?_
      obtain ⟨m29, x30, q31, h⟩ := gCl_some h
      refine r_callS (pc := 34) [.long _, .long _, .long _] (tX6_in _ _ _ hF _ _ _ _ _ q31) ⟨rfl, rfl⟩ cd_X6_in wX6_37 nm_X6_in rfl (by rw [hRm]; decide) rfl (Nat.le_of_ble_eq_true rfl) dX6_due_34 ?_
      refine r_if_eq (pc := 37) (tgt := 55) dX6_due_37 (by decide) h (fun h => ?_) (fun h => ?_)
      · refine r_iconst (pc := 55) (v := 2) dX6_due_55 (by decide) ?_
        obtain ⟨m32, x33, q34, h⟩ := gCl_some h
        refine r_callV (kd := 5) (pc := 56) [.int _] (tX6_refused _ _ _ hF _ _ _ q34) ⟨rfl, rfl⟩ cd_X6_refused wX6_108 nm_X6_refused rfl (by rw [hRm]; decide) rfl (Nat.le_of_ble_eq_true rfl) rfl (by decide) (gO5 hF) dX6_due_56 ?_
        refine r_if_eq (pc := 59) (tgt := 64) dX6_due_59 (by decide) h (fun h => ?_) (fun h => ?_)
        · refine r_iconst (pc := 64) (v := 0) dX6_due_64 (by decide) ?_
          refine r_istore (pc := 65) dX6_due_65 (by rw [hnL]; decide) rfl ?_
          refine r_iload_n (pc := 67) dX6_due_67 rfl rfl ?_
          refine r_istore (pc := 68) dX6_due_68 (by rw [hnL]; decide) rfl ?_
          have L37 : ∀ (n35 : Nat) (v38 : Int32) (v39 : Int32) (m40 : gM), fX6_due_L70 p1 p2 p3 n35 v38 v39 m40 = some o → AW Y cX6_due RX6 70 [some (.ref 5693), some (.int p1), some (.int p2), some (.int p3), none, some (.int v38), some (.int v39)] [] m40 := by
            intro n35
            induction n35 with
            | zero =>
              intro v38 v39 m40 h
              exact absurd h (by simp [fX6_due_L70])
            | succ n35 ih36 =>
              intro v38 v39 m40 h
              rw [fX6_due_L70] at h
              refine r_iload (pc := 70) dX6_due_70 rfl ?_
              refine r_iload_n (pc := 72) dX6_due_72 rfl rfl ?_
              refine r_iload_n (pc := 73) dX6_due_73 rfl rfl ?_
              refine r_iadd (pc := 74) dX6_due_74 ?_
              refine r_icmp_ge (pc := 75) (tgt := 99) dX6_due_75 (by decide) h (fun h => ?_) (fun h => ?_)
              · refine r_iload (pc := 99) dX6_due_99 rfl ?_
                exact r_iretH dX6_due_101 h he
              · refine r_iload (pc := 78) dX6_due_78 rfl ?_
                refine r_aload_n (pc := 80) dX6_due_80 rfl rfl ?_
                refine fX6_13 (pc := 81) hF dX6_due_81 (fun b41 => ?_)
                refine r_iload_n (pc := 84) dX6_due_84 rfl rfl ?_
                refine r_iload (pc := 85) dX6_due_85 rfl ?_
                obtain ⟨m42, x43, q44, h⟩ := gCl_some h
                refine r_callS (pc := 87) [.ref _, .int _, .int _] (tX6_dueOn _ _ _ hF _ _ _ _ _ _ q44 b41) ⟨rfl, rfl⟩ cd_X6_dueOn wX6_61 nm_X6_dueOn rfl (by rw [hRm]; decide) rfl (Nat.le_of_ble_eq_true rfl) dX6_due_87 ?_
                refine r_iadd (pc := 90) dX6_due_90 ?_
                refine r_istoreL (pc := 91) dX6_due_91 (by rw [hnL]; decide) h (fun x45 h => ?_)
                refine r_iinc (pc := 93) (d := 1) dX6_due_93 rfl (by decide) (by rw [hnL]; decide) h (fun x46 h => ?_)
                refine r_goto (pc := 96) (tgt := 70) dX6_due_96 (by decide) ?_
                exact r_mask [true, true, true, true, false, true, true] rfl (ih36 _ _ _ h)
          exact r_mask [true, true, true, true, false, true, true] rfl (L37 _ _ _ _ h)
        · refine r_iconst (pc := 62) (v := 0) dX6_due_62 (by decide) ?_
          exact r_iretH dX6_due_63 h he
      · refine r_iload (pc := 40) dX6_due_40 rfl ?_
        refine r_i2l (pc := 42) dX6_due_42 ?_
        refine r_lconst (pc := 43) (v := 0) dX6_due_43 (by decide) ?_
        refine r_lconst (pc := 44) (v := 1) dX6_due_44 (by decide) ?_
        obtain ⟨m47, x48, q49, h⟩ := gCl_some h
        refine r_callS (pc := 45) [.long _, .long _, .long _] (tX6_in _ _ _ hF _ _ _ _ _ q49) ⟨rfl, rfl⟩ cd_X6_in wX6_37 nm_X6_in rfl (by rw [hRm]; decide) rfl (Nat.le_of_ble_eq_true rfl) dX6_due_45 ?_
        refine r_if_eq (pc := 48) (tgt := 55) dX6_due_48 (by decide) h (fun h => ?_) (fun h => ?_)
        · refine r_iconst (pc := 55) (v := 2) dX6_due_55 (by decide) ?_
          obtain ⟨m50, x51, q52, h⟩ := gCl_some h
          refine r_callV (kd := 5) (pc := 56) [.int _] (tX6_refused _ _ _ hF _ _ _ q52) ⟨rfl, rfl⟩ cd_X6_refused wX6_108 nm_X6_refused rfl (by rw [hRm]; decide) rfl (Nat.le_of_ble_eq_true rfl) rfl (by decide) (gO5 hF) dX6_due_56 ?_
          refine r_if_eq (pc := 59) (tgt := 64) dX6_due_59 (by decide) h (fun h => ?_) (fun h => ?_)
          · refine r_iconst (pc := 64) (v := 0) dX6_due_64 (by decide) ?_
            refine r_istore (pc := 65) dX6_due_65 (by rw [hnL]; decide) rfl ?_
            refine r_iload_n (pc := 67) dX6_due_67 rfl rfl ?_
            refine r_istore (pc := 68) dX6_due_68 (by rw [hnL]; decide) rfl ?_
            have L55 : ∀ (n53 : Nat) (v56 : Int32) (v57 : Int32) (m58 : gM), fX6_due_L70 p1 p2 p3 n53 v56 v57 m58 = some o → AW Y cX6_due RX6 70 [some (.ref 5693), some (.int p1), some (.int p2), some (.int p3), none, some (.int v56), some (.int v57)] [] m58 := by
              intro n53
              induction n53 with
              | zero =>
                intro v56 v57 m58 h
                exact absurd h (by simp [fX6_due_L70])
              | succ n53 ih54 =>
                intro v56 v57 m58 h
                rw [fX6_due_L70] at h
                refine r_iload (pc := 70) dX6_due_70 rfl ?_
                refine r_iload_n (pc := 72) dX6_due_72 rfl rfl ?_
                refine r_iload_n (pc := 73) dX6_due_73 rfl rfl ?_
                refine r_iadd (pc := 74) dX6_due_74 ?_
                refine r_icmp_ge (pc := 75) (tgt := 99) dX6_due_75 (by decide) h (fun h => ?_) (fun h => ?_)
                · refine r_iload (pc := 99) dX6_due_99 rfl ?_
                  exact r_iretH dX6_due_101 h he
                · refine r_iload (pc := 78) dX6_due_78 rfl ?_
                  refine r_aload_n (pc := 80) dX6_due_80 rfl rfl ?_
                  refine fX6_13 (pc := 81) hF dX6_due_81 (fun b59 => ?_)
                  refine r_iload_n (pc := 84) dX6_due_84 rfl rfl ?_
                  refine r_iload (pc := 85) dX6_due_85 rfl ?_
                  obtain ⟨m60, x61, q62, h⟩ := gCl_some h
                  refine r_callS (pc := 87) [.ref _, .int _, .int _] (tX6_dueOn _ _ _ hF _ _ _ _ _ _ q62 b59) ⟨rfl, rfl⟩ cd_X6_dueOn wX6_61 nm_X6_dueOn rfl (by rw [hRm]; decide) rfl (Nat.le_of_ble_eq_true rfl) dX6_due_87 ?_
                  refine r_iadd (pc := 90) dX6_due_90 ?_
                  refine r_istoreL (pc := 91) dX6_due_91 (by rw [hnL]; decide) h (fun x63 h => ?_)
                  refine r_iinc (pc := 93) (d := 1) dX6_due_93 rfl (by decide) (by rw [hnL]; decide) h (fun x64 h => ?_)
                  refine r_goto (pc := 96) (tgt := 70) dX6_due_96 (by decide) ?_
                  exact r_mask [true, true, true, true, false, true, true] rfl (ih54 _ _ _ h)
            exact r_mask [true, true, true, true, false, true, true] rfl (L55 _ _ _ _ h)
          · refine r_iconst (pc := 62) (v := 0) dX6_due_62 (by decide) ?_
            exact r_iretH dX6_due_63 h he
        · refine r_iconst (pc := 51) (v := 0) dX6_due_51 (by decide) ?_
          refine r_goto (pc := 52) (tgt := 56) dX6_due_52 (by decide) ?_
          obtain ⟨m65, x66, q67, h⟩ := gCl_some h
          refine r_callV (kd := 5) (pc := 56) [.int _] (tX6_refused _ _ _ hF _ _ _ q67) ⟨rfl, rfl⟩ cd_X6_refused wX6_108 nm_X6_refused rfl (by rw [hRm]; decide) rfl (Nat.le_of_ble_eq_true rfl) rfl (by decide) (gO5 hF) dX6_due_56 ?_
          refine r_if_eq (pc := 59) (tgt := 64) dX6_due_59 (by decide) h (fun h => ?_) (fun h => ?_)
          · refine r_iconst (pc := 64) (v := 0) dX6_due_64 (by decide) ?_
            refine r_istore (pc := 65) dX6_due_65 (by rw [hnL]; decide) rfl ?_
            refine r_iload_n (pc := 67) dX6_due_67 rfl rfl ?_
            refine r_istore (pc := 68) dX6_due_68 (by rw [hnL]; decide) rfl ?_
            have L70 : ∀ (n68 : Nat) (v71 : Int32) (v72 : Int32) (m73 : gM), fX6_due_L70 p1 p2 p3 n68 v71 v72 m73 = some o → AW Y cX6_due RX6 70 [some (.ref 5693), some (.int p1), some (.int p2), some (.int p3), none, some (.int v71), some (.int v72)] [] m73 := by
              intro n68
              induction n68 with
              | zero =>
                intro v71 v72 m73 h
                exact absurd h (by simp [fX6_due_L70])
              | succ n68 ih69 =>
                intro v71 v72 m73 h
                rw [fX6_due_L70] at h
                refine r_iload (pc := 70) dX6_due_70 rfl ?_
                refine r_iload_n (pc := 72) dX6_due_72 rfl rfl ?_
                refine r_iload_n (pc := 73) dX6_due_73 rfl rfl ?_
                refine r_iadd (pc := 74) dX6_due_74 ?_
                refine r_icmp_ge (pc := 75) (tgt := 99) dX6_due_75 (by decide) h (fun h => ?_) (fun h => ?_)
                · refine r_iload (pc := 99) dX6_due_99 rfl ?_
                  exact r_iretH dX6_due_101 h he
                · refine r_iload (pc := 78) dX6_due_78 rfl ?_
                  refine r_aload_n (pc := 80) dX6_due_80 rfl rfl ?_
                  refine fX6_13 (pc := 81) hF dX6_due_81 (fun b74 => ?_)
                  refine r_iload_n (pc := 84) dX6_due_84 rfl rfl ?_
                  refine r_iload (pc := 85) dX6_due_85 rfl ?_
                  obtain ⟨m75, x76, q77, h⟩ := gCl_some h
                  refine r_callS (pc := 87) [.ref _, .int _, .int _] (tX6_dueOn _ _ _ hF _ _ _ _ _ _ q77 b74) ⟨rfl, rfl⟩ cd_X6_dueOn wX6_61 nm_X6_dueOn rfl (by rw [hRm]; decide) rfl (Nat.le_of_ble_eq_true rfl) dX6_due_87 ?_
                  refine r_iadd (pc := 90) dX6_due_90 ?_
                  refine r_istoreL (pc := 91) dX6_due_91 (by rw [hnL]; decide) h (fun x78 h => ?_)
                  refine r_iinc (pc := 93) (d := 1) dX6_due_93 rfl (by decide) (by rw [hnL]; decide) h (fun x79 h => ?_)
                  refine r_goto (pc := 96) (tgt := 70) dX6_due_96 (by decide) ?_
                  exact r_mask [true, true, true, true, false, true, true] rfl (ih69 _ _ _ h)
            exact r_mask [true, true, true, true, false, true, true] rfl (L70 _ _ _ _ h)
          · refine r_iconst (pc := 62) (v := 0) dX6_due_62 (by decide) ?_
            exact r_iretH dX6_due_63 h he
  · refine r_iconst (pc := 12) (v := 1) dX6_due_12 (by decide) ?_
    refine r_goto (pc := 13) (tgt := 56) dX6_due_13 (by decide) ?_
    obtain ⟨m80, x81, q82, h⟩ := gCl_some h
    refine r_callV (kd := 5) (pc := 56) [.int _] (tX6_refused _ _ _ hF _ _ _ q82) ⟨rfl, rfl⟩ cd_X6_refused wX6_108 nm_X6_refused rfl (by rw [hRm]; decide) rfl (Nat.le_of_ble_eq_true rfl) rfl (by decide) (gO5 hF) dX6_due_56 ?_
    refine r_if_eq (pc := 59) (tgt := 64) dX6_due_59 (by decide) h (fun h => ?_) (fun h => ?_)
    · refine r_iconst (pc := 64) (v := 0) dX6_due_64 (by decide) ?_
      refine r_istore (pc := 65) dX6_due_65 (by rw [hnL]; decide) rfl ?_
      refine r_iload_n (pc := 67) dX6_due_67 rfl rfl ?_
      refine r_istore (pc := 68) dX6_due_68 (by rw [hnL]; decide) rfl ?_
      have L85 : ∀ (n83 : Nat) (v86 : Int32) (v87 : Int32) (m88 : gM), fX6_due_L70 p1 p2 p3 n83 v86 v87 m88 = some o → AW Y cX6_due RX6 70 [some (.ref 5693), some (.int p1), some (.int p2), some (.int p3), none, some (.int v86), some (.int v87)] [] m88 := by
        intro n83
        induction n83 with
        | zero =>
          intro v86 v87 m88 h
          exact absurd h (by simp [fX6_due_L70])
        | succ n83 ih84 =>
          intro v86 v87 m88 h
          rw [fX6_due_L70] at h
          refine r_iload (pc := 70) dX6_due_70 rfl ?_
          refine r_iload_n (pc := 72) dX6_due_72 rfl rfl ?_
          refine r_iload_n (pc := 73) dX6_due_73 rfl rfl ?_
          refine r_iadd (pc := 74) dX6_due_74 ?_
          refine r_icmp_ge (pc := 75) (tgt := 99) dX6_due_75 (by decide) h (fun h => ?_) (fun h => ?_)
          · refine r_iload (pc := 99) dX6_due_99 rfl ?_
            exact r_iretH dX6_due_101 h he
          · refine r_iload (pc := 78) dX6_due_78 rfl ?_
            refine r_aload_n (pc := 80) dX6_due_80 rfl rfl ?_
            refine fX6_13 (pc := 81) hF dX6_due_81 (fun b89 => ?_)
            refine r_iload_n (pc := 84) dX6_due_84 rfl rfl ?_
            refine r_iload (pc := 85) dX6_due_85 rfl ?_
            obtain ⟨m90, x91, q92, h⟩ := gCl_some h
            refine r_callS (pc := 87) [.ref _, .int _, .int _] (tX6_dueOn _ _ _ hF _ _ _ _ _ _ q92 b89) ⟨rfl, rfl⟩ cd_X6_dueOn wX6_61 nm_X6_dueOn rfl (by rw [hRm]; decide) rfl (Nat.le_of_ble_eq_true rfl) dX6_due_87 ?_
            refine r_iadd (pc := 90) dX6_due_90 ?_
            refine r_istoreL (pc := 91) dX6_due_91 (by rw [hnL]; decide) h (fun x93 h => ?_)
            refine r_iinc (pc := 93) (d := 1) dX6_due_93 rfl (by decide) (by rw [hnL]; decide) h (fun x94 h => ?_)
            refine r_goto (pc := 96) (tgt := 70) dX6_due_96 (by decide) ?_
            exact r_mask [true, true, true, true, false, true, true] rfl (ih84 _ _ _ h)
      exact r_mask [true, true, true, true, false, true, true] rfl (L85 _ _ _ _ h)
    · refine r_iconst (pc := 62) (v := 0) dX6_due_62 (by decide) ?_
      exact r_iretH dX6_due_63 h he
def fX6_remember_L11  : Nat → Int32 → gM → Option (gM)
  | 0, _, _ => none
  | n + 1, v1, m => (if 3354 ≤ v1 then gLt (m (5693 + 6)) fun x10 => gLt (upd m (5693 + 6) (x10 - 1)) fun m11 => gLt (m11 (5693 + 6)) fun x14 => gCv (fX6_copyState 5824 258 0 6340 3612 (258 * x14) m11) fun m15 => gLt (m15 (5693 + 6)) fun x18 => gLt (upd m15 (5693 + 6) (x18 + 1)) fun m19 => some m19 else gRd m 6340 3612 (v1 + 258) fun x22 => gWr m 6340 3612 v1 x22 fun m23 => gLt (v1 + 1) fun x24 => fX6_remember_L11 n x24 m23)
def fX6_remember  (m : gM) : Option (gM) := gLt (m (5693 + 6)) fun x1 => (if x1 = 14 then fX6_remember_L11 gFU 0 m else gLt (m (5693 + 6)) fun x4 => gCv (fX6_copyState 5824 258 0 6340 3612 (258 * x4) m) fun m5 => gLt (m5 (5693 + 6)) fun x8 => gLt (upd m5 (5693 + 6) (x8 + 1)) fun m9 => some m9)
abbrev rmX6_remember : Room := { frames := 1, cells := 0, slots := 0, locals := 24 }
set_option maxHeartbeats 4000000 in
set_option maxRecDepth 100000 in
theorem tX6_remember (l : Launch) (G : gX) (u : gU) (hF : gFull u)  (m : gM) (o : gM) (h : fX6_remember  m = some o)  : gMet l G u yX6_remember (.code yX6_remember cX6_remember 2 none) rmX6_remember [.ref 5693] m o none := by
  refine gMet_of (own := RX6) (k := 1) (by decide) rfl ⟨rfl, rfl⟩ (Nat.le_of_ble_eq_true rfl) [some (.ref 5693), none] rfl (fun Y hG hu hnL hLn hRm he => ?_)
  subst hG hu hLn
  unfold fX6_remember at h
  refine r_aload_n (pc := 0) dX6_remember_0 rfl rfl ?_
  refine fX6_187 (pc := 1) dX6_remember_1 (gO5 hF) h (fun x1 h => ?_)
  refine r_bipush (pc := 4) (v := 14) dX6_remember_4 (by decide) ?_
  refine r_icmp_ne (pc := 6) (tgt := 50) dX6_remember_6 (by decide) h (fun h => ?_) (fun h => ?_)
  · refine r_aload_n (pc := 50) dX6_remember_50 rfl rfl ?_
    refine fX6_13 (pc := 51) hF dX6_remember_51 (fun b2 => ?_)
    refine r_iconst (pc := 54) (v := 0) dX6_remember_54 (by decide) ?_
    refine r_aload_n (pc := 55) dX6_remember_55 rfl rfl ?_
    refine fX6_19 (pc := 56) hF dX6_remember_56 (fun b3 => ?_)
    refine r_sipush (pc := 59) (v := 258) dX6_remember_59 (by decide) ?_
    refine r_aload_n (pc := 62) dX6_remember_62 rfl rfl ?_
    refine fX6_187 (pc := 63) dX6_remember_63 (gO5 hF) h (fun x4 h => ?_)
    refine r_imul (pc := 66) dX6_remember_66 ?_
    obtain ⟨m5, q7, h⟩ := gCv_some h
    refine r_callS (pc := 67) [.ref _, .int _, .ref _, .int _] (tX6_copyState _ _ _ hF _ _ _ _ _ _ _ _ q7 b2 b3) ⟨rfl, rfl⟩ cd_X6_copyState wX6_183 nm_X6_copyState rfl (by rw [hRm]; decide) rfl (Nat.le_of_ble_eq_true rfl) dX6_remember_67 ?_
    refine r_aload_n (pc := 70) dX6_remember_70 rfl rfl ?_
    refine r_dup (pc := 71) dX6_remember_71 rfl ?_
    refine fX6_187 (pc := 72) dX6_remember_72 (gO5 hF) h (fun x8 h => ?_)
    refine r_iconst (pc := 75) (v := 1) dX6_remember_75 (by decide) ?_
    refine r_iadd (pc := 76) dX6_remember_76 ?_
    refine fX6_187p (pc := 77) dX6_remember_77 (gO5 hF) h (fun m9 h => ?_)
    exact r_vretH dX6_remember_80 h he
  · refine r_iconst (pc := 9) (v := 0) dX6_remember_9 (by decide) ?_
    refine r_istore_n (pc := 10) dX6_remember_10 rfl (by rw [hnL]; decide) rfl ?_
    have L27 : ∀ (n25 : Nat) (v28 : Int32) (m29 : gM), fX6_remember_L11 n25 v28 m29 = some o → AW Y cX6_remember RX6 11 [some (.ref 5693), some (.int v28)] [] m29 := by
      intro n25
      induction n25 with
      | zero =>
        intro v28 m29 h
        exact absurd h (by simp [fX6_remember_L11])
      | succ n25 ih26 =>
        intro v28 m29 h
        rw [fX6_remember_L11] at h
        refine r_iload_n (pc := 11) dX6_remember_11 rfl rfl ?_
        refine r_sipush (pc := 12) (v := 3354) dX6_remember_12 (by decide) ?_
        refine r_icmp_ge (pc := 15) (tgt := 40) dX6_remember_15 (by decide) h (fun h => ?_) (fun h => ?_)
        · refine r_aload_n (pc := 40) dX6_remember_40 rfl rfl ?_
          refine r_dup (pc := 41) dX6_remember_41 rfl ?_
          refine fX6_187 (pc := 42) dX6_remember_42 (gO5 hF) h (fun x30 h => ?_)
          refine r_iconst (pc := 45) (v := 1) dX6_remember_45 (by decide) ?_
          refine r_isub (pc := 46) dX6_remember_46 ?_
          refine fX6_187p (pc := 47) dX6_remember_47 (gO5 hF) h (fun m31 h => ?_)
          refine r_aload_n (pc := 50) dX6_remember_50 rfl rfl ?_
          refine fX6_13 (pc := 51) hF dX6_remember_51 (fun b32 => ?_)
          refine r_iconst (pc := 54) (v := 0) dX6_remember_54 (by decide) ?_
          refine r_aload_n (pc := 55) dX6_remember_55 rfl rfl ?_
          refine fX6_19 (pc := 56) hF dX6_remember_56 (fun b33 => ?_)
          refine r_sipush (pc := 59) (v := 258) dX6_remember_59 (by decide) ?_
          refine r_aload_n (pc := 62) dX6_remember_62 rfl rfl ?_
          refine fX6_187 (pc := 63) dX6_remember_63 (gO5 hF) h (fun x34 h => ?_)
          refine r_imul (pc := 66) dX6_remember_66 ?_
          obtain ⟨m35, q37, h⟩ := gCv_some h
          refine r_callS (pc := 67) [.ref _, .int _, .ref _, .int _] (tX6_copyState _ _ _ hF _ _ _ _ _ _ _ _ q37 b32 b33) ⟨rfl, rfl⟩ cd_X6_copyState wX6_183 nm_X6_copyState rfl (by rw [hRm]; decide) rfl (Nat.le_of_ble_eq_true rfl) dX6_remember_67 ?_
          refine r_aload_n (pc := 70) dX6_remember_70 rfl rfl ?_
          refine r_dup (pc := 71) dX6_remember_71 rfl ?_
          refine fX6_187 (pc := 72) dX6_remember_72 (gO5 hF) h (fun x38 h => ?_)
          refine r_iconst (pc := 75) (v := 1) dX6_remember_75 (by decide) ?_
          refine r_iadd (pc := 76) dX6_remember_76 ?_
          refine fX6_187p (pc := 77) dX6_remember_77 (gO5 hF) h (fun m39 h => ?_)
          exact r_vretH dX6_remember_80 h he
        · refine r_aload_n (pc := 18) dX6_remember_18 rfl rfl ?_
          refine fX6_19 (pc := 19) hF dX6_remember_19 (fun b40 => ?_)
          refine r_iload_n (pc := 22) dX6_remember_22 rfl rfl ?_
          refine r_aload_n (pc := 23) dX6_remember_23 rfl rfl ?_
          refine fX6_19 (pc := 24) hF dX6_remember_24 (fun b41 => ?_)
          refine r_iload_n (pc := 27) dX6_remember_27 rfl rfl ?_
          refine r_sipush (pc := 28) (v := 258) dX6_remember_28 (by decide) ?_
          refine r_iadd (pc := 31) dX6_remember_31 ?_
          refine r_iald (pc := 32) dX6_remember_32 b41 h (fun x42 h => ?_)
          refine r_iast (pc := 33) dX6_remember_33 b40 h (fun m43 h => ?_)
          refine r_iinc (pc := 34) (d := 1) dX6_remember_34 rfl (by decide) (by rw [hnL]; decide) h (fun x44 h => ?_)
          refine r_goto (pc := 37) (tgt := 11) dX6_remember_37 (by decide) ?_
          exact r_mask [true, true] rfl (ih26 _ _ h)
    exact r_mask [true, true] rfl (L27 _ _ _ h)
def fX6_customer (p1 : Int32) (p2 : Int32) (m : gM) : Option (gM × Int32) := gCl (fX6_isStreet p1 m) fun m1 x2 => (if x2 = 0 then gCl (fX6_refused 1 m1) fun m39 x40 => (if x40 = 0 then gCv (fX6_remember m39) fun m42 => gCl (fX6_customerOn 5824 258 p1 p2 m42) fun m46 x47 => some (m46, x47) else some (m39, 0)) else gCl (fX6_in (p2.toInt64) 0 9999999 m1) fun m4 x5 => (if x5 = 0 then gCl (fX6_refused 2 m4) fun m29 x30 => (if x30 = 0 then gCv (fX6_remember m29) fun m32 => gCl (fX6_customerOn 5824 258 p1 p2 m32) fun m36 x37 => some (m36, x37) else some (m29, 0)) else gRd m4 5824 258 0 fun x8 => (if 10 ≤ x8 then gCl (fX6_refused 3 m4) fun m9 x10 => (if x10 = 0 then gCv (fX6_remember m9) fun m12 => gCl (fX6_customerOn 5824 258 p1 p2 m12) fun m16 x17 => some (m16, x17) else some (m9, 0)) else gCl (fX6_refused 0 m4) fun m19 x20 => (if x20 = 0 then gCv (fX6_remember m19) fun m22 => gCl (fX6_customerOn 5824 258 p1 p2 m22) fun m26 x27 => some (m26, x27) else some (m19, 0)))))
abbrev rmX6_customer : Room := { frames := 2, cells := 0, slots := 0, locals := 48 }
set_option maxHeartbeats 4000000 in
set_option maxRecDepth 100000 in
theorem tX6_customer (l : Launch) (G : gX) (u : gU) (hF : gFull u) (p1 : Int32) (p2 : Int32) (m : gM) (o : gM × Int32) (h : fX6_customer p1 p2 m = some o)  : gMet l G u yX6_customer (.code yX6_customer cX6_customer 3 (some .int)) rmX6_customer [.ref 5693, .int p1, .int p2] m o.1 (some (.int o.2)) := by
  refine gMet_of (own := RX6) (k := 0) (by decide) rfl ⟨rfl, rfl⟩ (Nat.le_of_ble_eq_true rfl) [some (.ref 5693), some (.int p1), some (.int p2)] rfl (fun Y hG hu hnL hLn hRm he => ?_)
  subst hG hu hLn
  unfold fX6_customer at h
  refine r_aload_n (pc := 0) dX6_customer_0 rfl rfl ?_
  refine r_iload_n (pc := 1) dX6_customer_1 rfl rfl ?_
  obtain ⟨m1, x2, q3, h⟩ := gCl_some h
  refine r_callS (pc := 2) [.int _] (tX6_isStreet _ _ _ hF _ _ _ q3) ⟨rfl, rfl⟩ cd_X6_isStreet wX6_205 nm_X6_isStreet rfl (by rw [hRm]; decide) rfl (Nat.le_of_ble_eq_true rfl) dX6_customer_2 ?_
  refine r_if_ne (pc := 5) (tgt := 12) dX6_customer_5 (by decide) h (fun h => ?_) (fun h => ?_)
  · refine r_iload_n (pc := 12) dX6_customer_12 rfl rfl ?_
    refine r_i2l (pc := 13) dX6_customer_13 ?_
    refine r_lconst (pc := 14) (v := 0) dX6_customer_14 (by decide) ?_
    refine r_ldc2 (pc := 15) (v := 9999999) dX6_customer_15 cX6_212 ?_
    obtain ⟨m4, x5, q6, h⟩ := gCl_some h
    refine r_callS (pc := 18) [.long _, .long _, .long _] (tX6_in _ _ _ hF _ _ _ _ _ q6) ⟨rfl, rfl⟩ cd_X6_in wX6_37 nm_X6_in rfl (by rw [hRm]; decide) rfl (Nat.le_of_ble_eq_true rfl) dX6_customer_18 ?_
    refine r_if_ne (pc := 21) (tgt := 28) dX6_customer_21 (by decide) h (fun h => ?_) (fun h => ?_)
    · refine r_aload_n (pc := 28) dX6_customer_28 rfl rfl ?_
      refine fX6_13 (pc := 29) hF dX6_customer_29 (fun b7 => ?_)
      refine r_iconst (pc := 32) (v := 0) dX6_customer_32 (by decide) ?_
      refine r_iald (pc := 33) dX6_customer_33 b7 h (fun x8 h => ?_)
      refine r_bipush (pc := 34) (v := 10) dX6_customer_34 (by decide) ?_
      refine r_icmp_ge (pc := 36) (tgt := 43) dX6_customer_36 (by decide) h (fun h => ?_) (fun h => ?_)
      · refine r_iconst (pc := 43) (v := 3) dX6_customer_43 (by decide) ?_
        obtain ⟨m9, x10, q11, h⟩ := gCl_some h
        refine r_callV (kd := 5) (pc := 44) [.int _] (tX6_refused _ _ _ hF _ _ _ q11) ⟨rfl, rfl⟩ cd_X6_refused wX6_108 nm_X6_refused rfl (by rw [hRm]; decide) rfl (Nat.le_of_ble_eq_true rfl) rfl (by decide) (gO5 hF) dX6_customer_44 ?_
        refine r_if_eq (pc := 47) (tgt := 52) dX6_customer_47 (by decide) h (fun h => ?_) (fun h => ?_)
        · refine r_aload_n (pc := 52) dX6_customer_52 rfl rfl ?_
          obtain ⟨m12, q14, h⟩ := gCv_some h
          refine r_callV (kd := 5) (pc := 53) [] (tX6_remember _ _ _ hF  _ _ q14) ⟨rfl, rfl⟩ cd_X6_remember wX6_214 nm_X6_remember rfl (by rw [hRm]; decide) rfl (Nat.le_of_ble_eq_true rfl) rfl (by decide) (gO5 hF) dX6_customer_53 ?_
          refine r_aload_n (pc := 56) dX6_customer_56 rfl rfl ?_
          refine fX6_13 (pc := 57) hF dX6_customer_57 (fun b15 => ?_)
          refine r_iload_n (pc := 60) dX6_customer_60 rfl rfl ?_
          refine r_iload_n (pc := 61) dX6_customer_61 rfl rfl ?_
          obtain ⟨m16, x17, q18, h⟩ := gCl_some h
          refine r_callS (pc := 62) [.ref _, .int _, .int _] (tX6_customerOn _ _ _ hF _ _ _ _ _ _ q18 b15) ⟨rfl, rfl⟩ cd_X6_customerOn wX6_128 nm_X6_customerOn rfl (by rw [hRm]; decide) rfl (Nat.le_of_ble_eq_true rfl) dX6_customer_62 ?_
          exact r_iretH dX6_customer_65 h he
        · refine r_iconst (pc := 50) (v := 0) dX6_customer_50 (by decide) ?_
          exact r_iretH dX6_customer_51 h he
      · refine r_iconst (pc := 39) (v := 0) dX6_customer_39 (by decide) ?_
        refine r_goto (pc := 40) (tgt := 44) dX6_customer_40 (by decide) ?_
        obtain ⟨m19, x20, q21, h⟩ := gCl_some h
        refine r_callV (kd := 5) (pc := 44) [.int _] (tX6_refused _ _ _ hF _ _ _ q21) ⟨rfl, rfl⟩ cd_X6_refused wX6_108 nm_X6_refused rfl (by rw [hRm]; decide) rfl (Nat.le_of_ble_eq_true rfl) rfl (by decide) (gO5 hF) dX6_customer_44 ?_
        refine r_if_eq (pc := 47) (tgt := 52) dX6_customer_47 (by decide) h (fun h => ?_) (fun h => ?_)
        · refine r_aload_n (pc := 52) dX6_customer_52 rfl rfl ?_
          obtain ⟨m22, q24, h⟩ := gCv_some h
          refine r_callV (kd := 5) (pc := 53) [] (tX6_remember _ _ _ hF  _ _ q24) ⟨rfl, rfl⟩ cd_X6_remember wX6_214 nm_X6_remember rfl (by rw [hRm]; decide) rfl (Nat.le_of_ble_eq_true rfl) rfl (by decide) (gO5 hF) dX6_customer_53 ?_
          refine r_aload_n (pc := 56) dX6_customer_56 rfl rfl ?_
          refine fX6_13 (pc := 57) hF dX6_customer_57 (fun b25 => ?_)
          refine r_iload_n (pc := 60) dX6_customer_60 rfl rfl ?_
          refine r_iload_n (pc := 61) dX6_customer_61 rfl rfl ?_
          obtain ⟨m26, x27, q28, h⟩ := gCl_some h
          refine r_callS (pc := 62) [.ref _, .int _, .int _] (tX6_customerOn _ _ _ hF _ _ _ _ _ _ q28 b25) ⟨rfl, rfl⟩ cd_X6_customerOn wX6_128 nm_X6_customerOn rfl (by rw [hRm]; decide) rfl (Nat.le_of_ble_eq_true rfl) dX6_customer_62 ?_
          exact r_iretH dX6_customer_65 h he
        · refine r_iconst (pc := 50) (v := 0) dX6_customer_50 (by decide) ?_
          exact r_iretH dX6_customer_51 h he
    · refine r_iconst (pc := 24) (v := 2) dX6_customer_24 (by decide) ?_
      refine r_goto (pc := 25) (tgt := 44) dX6_customer_25 (by decide) ?_
      obtain ⟨m29, x30, q31, h⟩ := gCl_some h
      refine r_callV (kd := 5) (pc := 44) [.int _] (tX6_refused _ _ _ hF _ _ _ q31) ⟨rfl, rfl⟩ cd_X6_refused wX6_108 nm_X6_refused rfl (by rw [hRm]; decide) rfl (Nat.le_of_ble_eq_true rfl) rfl (by decide) (gO5 hF) dX6_customer_44 ?_
      refine r_if_eq (pc := 47) (tgt := 52) dX6_customer_47 (by decide) h (fun h => ?_) (fun h => ?_)
      · refine r_aload_n (pc := 52) dX6_customer_52 rfl rfl ?_
        obtain ⟨m32, q34, h⟩ := gCv_some h
        refine r_callV (kd := 5) (pc := 53) [] (tX6_remember _ _ _ hF  _ _ q34) ⟨rfl, rfl⟩ cd_X6_remember wX6_214 nm_X6_remember rfl (by rw [hRm]; decide) rfl (Nat.le_of_ble_eq_true rfl) rfl (by decide) (gO5 hF) dX6_customer_53 ?_
        refine r_aload_n (pc := 56) dX6_customer_56 rfl rfl ?_
        refine fX6_13 (pc := 57) hF dX6_customer_57 (fun b35 => ?_)
        refine r_iload_n (pc := 60) dX6_customer_60 rfl rfl ?_
        refine r_iload_n (pc := 61) dX6_customer_61 rfl rfl ?_
        obtain ⟨m36, x37, q38, h⟩ := gCl_some h
        refine r_callS (pc := 62) [.ref _, .int _, .int _] (tX6_customerOn _ _ _ hF _ _ _ _ _ _ q38 b35) ⟨rfl, rfl⟩ cd_X6_customerOn wX6_128 nm_X6_customerOn rfl (by rw [hRm]; decide) rfl (Nat.le_of_ble_eq_true rfl) dX6_customer_62 ?_
        exact r_iretH dX6_customer_65 h he
      · refine r_iconst (pc := 50) (v := 0) dX6_customer_50 (by decide) ?_
        exact r_iretH dX6_customer_51 h he
  · refine r_iconst (pc := 8) (v := 1) dX6_customer_8 (by decide) ?_
    refine r_goto (pc := 9) (tgt := 44) dX6_customer_9 (by decide) ?_
    obtain ⟨m39, x40, q41, h⟩ := gCl_some h
    refine r_callV (kd := 5) (pc := 44) [.int _] (tX6_refused _ _ _ hF _ _ _ q41) ⟨rfl, rfl⟩ cd_X6_refused wX6_108 nm_X6_refused rfl (by rw [hRm]; decide) rfl (Nat.le_of_ble_eq_true rfl) rfl (by decide) (gO5 hF) dX6_customer_44 ?_
    refine r_if_eq (pc := 47) (tgt := 52) dX6_customer_47 (by decide) h (fun h => ?_) (fun h => ?_)
    · refine r_aload_n (pc := 52) dX6_customer_52 rfl rfl ?_
      obtain ⟨m42, q44, h⟩ := gCv_some h
      refine r_callV (kd := 5) (pc := 53) [] (tX6_remember _ _ _ hF  _ _ q44) ⟨rfl, rfl⟩ cd_X6_remember wX6_214 nm_X6_remember rfl (by rw [hRm]; decide) rfl (Nat.le_of_ble_eq_true rfl) rfl (by decide) (gO5 hF) dX6_customer_53 ?_
      refine r_aload_n (pc := 56) dX6_customer_56 rfl rfl ?_
      refine fX6_13 (pc := 57) hF dX6_customer_57 (fun b45 => ?_)
      refine r_iload_n (pc := 60) dX6_customer_60 rfl rfl ?_
      refine r_iload_n (pc := 61) dX6_customer_61 rfl rfl ?_
      obtain ⟨m46, x47, q48, h⟩ := gCl_some h
      refine r_callS (pc := 62) [.ref _, .int _, .int _] (tX6_customerOn _ _ _ hF _ _ _ _ _ _ q48 b45) ⟨rfl, rfl⟩ cd_X6_customerOn wX6_128 nm_X6_customerOn rfl (by rw [hRm]; decide) rfl (Nat.le_of_ble_eq_true rfl) dX6_customer_62 ?_
      exact r_iretH dX6_customer_65 h he
    · refine r_iconst (pc := 50) (v := 0) dX6_customer_50 (by decide) ?_
      exact r_iretH dX6_customer_51 h he
def fX6_change (p1 : Int32) (p2 : Int32) (p3 : Int32) (m : gM) : Option (gM × Int32) := gCl (fX6_isCustomer 5824 258 p1 m) fun m2 x3 => (if x3 = 0 then gCl (fX6_refused 1 m2) fun m5 x6 => (if x6 = 0 then gCv (fX6_remember m5) fun m8 => gCl (fX6_changeOn 5824 258 p1 p2 p3 m8) fun m12 x13 => some (m12, x13) else some (m5, 0)) else gCl (fX6_isWeekday p2 m2) fun m15 x16 => (if x16 = 0 then gCl (fX6_refused 1 m15) fun m41 x42 => (if x42 = 0 then gCv (fX6_remember m41) fun m44 => gCl (fX6_changeOn 5824 258 p1 p2 p3 m44) fun m48 x49 => some (m48, x49) else some (m41, 0)) else gCl (fX6_in (p3.toInt64) 0 9 m15) fun m18 x19 => (if x19 = 0 then gCl (fX6_refused 2 m18) fun m21 x22 => (if x22 = 0 then gCv (fX6_remember m21) fun m24 => gCl (fX6_changeOn 5824 258 p1 p2 p3 m24) fun m28 x29 => some (m28, x29) else some (m21, 0)) else gCl (fX6_refused 0 m18) fun m31 x32 => (if x32 = 0 then gCv (fX6_remember m31) fun m34 => gCl (fX6_changeOn 5824 258 p1 p2 p3 m34) fun m38 x39 => some (m38, x39) else some (m31, 0)))))
abbrev rmX6_change : Room := { frames := 2, cells := 0, slots := 0, locals := 46 }
set_option maxHeartbeats 4000000 in
set_option maxRecDepth 100000 in
theorem tX6_change (l : Launch) (G : gX) (u : gU) (hF : gFull u) (p1 : Int32) (p2 : Int32) (p3 : Int32) (m : gM) (o : gM × Int32) (h : fX6_change p1 p2 p3 m = some o)  : gMet l G u yX6_change (.code yX6_change cX6_change 4 (some .int)) rmX6_change [.ref 5693, .int p1, .int p2, .int p3] m o.1 (some (.int o.2)) := by
  refine gMet_of (own := RX6) (k := 0) (by decide) rfl ⟨rfl, rfl⟩ (Nat.le_of_ble_eq_true rfl) [some (.ref 5693), some (.int p1), some (.int p2), some (.int p3)] rfl (fun Y hG hu hnL hLn hRm he => ?_)
  subst hG hu hLn
  unfold fX6_change at h
  refine r_aload_n (pc := 0) dX6_change_0 rfl rfl ?_
  refine r_aload_n (pc := 1) dX6_change_1 rfl rfl ?_
  refine fX6_13 (pc := 2) hF dX6_change_2 (fun b1 => ?_)
  refine r_iload_n (pc := 5) dX6_change_5 rfl rfl ?_
  obtain ⟨m2, x3, q4, h⟩ := gCl_some h
  refine r_callS (pc := 6) [.ref _, .int _] (tX6_isCustomer _ _ _ hF _ _ _ _ _ q4 b1) ⟨rfl, rfl⟩ cd_X6_isCustomer wX6_139 nm_X6_isCustomer rfl (by rw [hRm]; decide) rfl (Nat.le_of_ble_eq_true rfl) dX6_change_6 ?_
  refine r_if_eq (pc := 9) (tgt := 19) dX6_change_9 (by decide) h (fun h => ?_) (fun h => ?_)
  · refine r_iconst (pc := 19) (v := 1) dX6_change_19 (by decide) ?_
    refine r_goto (pc := 20) (tgt := 40) dX6_change_20 (by decide) ?_
    obtain ⟨m5, x6, q7, h⟩ := gCl_some h
    refine r_callV (kd := 5) (pc := 40) [.int _] (tX6_refused _ _ _ hF _ _ _ q7) ⟨rfl, rfl⟩ cd_X6_refused wX6_108 nm_X6_refused rfl (by rw [hRm]; decide) rfl (Nat.le_of_ble_eq_true rfl) rfl (by decide) (gO5 hF) dX6_change_40 ?_
    refine r_if_eq (pc := 43) (tgt := 48) dX6_change_43 (by decide) h (fun h => ?_) (fun h => ?_)
    · refine r_aload_n (pc := 48) dX6_change_48 rfl rfl ?_
      obtain ⟨m8, q10, h⟩ := gCv_some h
      refine r_callV (kd := 5) (pc := 49) [] (tX6_remember _ _ _ hF  _ _ q10) ⟨rfl, rfl⟩ cd_X6_remember wX6_214 nm_X6_remember rfl (by rw [hRm]; decide) rfl (Nat.le_of_ble_eq_true rfl) rfl (by decide) (gO5 hF) dX6_change_49 ?_
      refine r_aload_n (pc := 52) dX6_change_52 rfl rfl ?_
      refine fX6_13 (pc := 53) hF dX6_change_53 (fun b11 => ?_)
      refine r_iload_n (pc := 56) dX6_change_56 rfl rfl ?_
      refine r_iload_n (pc := 57) dX6_change_57 rfl rfl ?_
      refine r_iload_n (pc := 58) dX6_change_58 rfl rfl ?_
      obtain ⟨m12, x13, q14, h⟩ := gCl_some h
      refine r_callS (pc := 59) [.ref _, .int _, .int _, .int _] (tX6_changeOn _ _ _ hF _ _ _ _ _ _ _ q14 b11) ⟨rfl, rfl⟩ cd_X6_changeOn wX6_143 nm_X6_changeOn rfl (by rw [hRm]; decide) rfl (Nat.le_of_ble_eq_true rfl) dX6_change_59 ?_
      exact r_iretH dX6_change_62 h he
    · refine r_iconst (pc := 46) (v := 0) dX6_change_46 (by decide) ?_
      exact r_iretH dX6_change_47 h he
  · refine r_iload_n (pc := 12) dX6_change_12 rfl rfl ?_
    obtain ⟨m15, x16, q17, h⟩ := gCl_some h
    refine r_callS (pc := 13) [.int _] (tX6_isWeekday _ _ _ hF _ _ _ q17) ⟨rfl, rfl⟩ cd_X6_isWeekday wX6_200 nm_X6_isWeekday rfl (by rw [hRm]; decide) rfl (Nat.le_of_ble_eq_true rfl) dX6_change_13 ?_
    refine r_if_ne (pc := 16) (tgt := 23) dX6_change_16 (by decide) h (fun h => ?_) (fun h => ?_)
    · refine r_iload_n (pc := 23) dX6_change_23 rfl rfl ?_
      refine r_i2l (pc := 24) dX6_change_24 ?_
      refine r_lconst (pc := 25) (v := 0) dX6_change_25 (by decide) ?_
      refine r_ldc2 (pc := 26) (v := 9) dX6_change_26 cX6_47 ?_
      obtain ⟨m18, x19, q20, h⟩ := gCl_some h
      refine r_callS (pc := 29) [.long _, .long _, .long _] (tX6_in _ _ _ hF _ _ _ _ _ q20) ⟨rfl, rfl⟩ cd_X6_in wX6_37 nm_X6_in rfl (by rw [hRm]; decide) rfl (Nat.le_of_ble_eq_true rfl) dX6_change_29 ?_
      refine r_if_eq (pc := 32) (tgt := 39) dX6_change_32 (by decide) h (fun h => ?_) (fun h => ?_)
      · refine r_iconst (pc := 39) (v := 2) dX6_change_39 (by decide) ?_
        obtain ⟨m21, x22, q23, h⟩ := gCl_some h
        refine r_callV (kd := 5) (pc := 40) [.int _] (tX6_refused _ _ _ hF _ _ _ q23) ⟨rfl, rfl⟩ cd_X6_refused wX6_108 nm_X6_refused rfl (by rw [hRm]; decide) rfl (Nat.le_of_ble_eq_true rfl) rfl (by decide) (gO5 hF) dX6_change_40 ?_
        refine r_if_eq (pc := 43) (tgt := 48) dX6_change_43 (by decide) h (fun h => ?_) (fun h => ?_)
        · refine r_aload_n (pc := 48) dX6_change_48 rfl rfl ?_
          obtain ⟨m24, q26, h⟩ := gCv_some h
          refine r_callV (kd := 5) (pc := 49) [] (tX6_remember _ _ _ hF  _ _ q26) ⟨rfl, rfl⟩ cd_X6_remember wX6_214 nm_X6_remember rfl (by rw [hRm]; decide) rfl (Nat.le_of_ble_eq_true rfl) rfl (by decide) (gO5 hF) dX6_change_49 ?_
          refine r_aload_n (pc := 52) dX6_change_52 rfl rfl ?_
          refine fX6_13 (pc := 53) hF dX6_change_53 (fun b27 => ?_)
          refine r_iload_n (pc := 56) dX6_change_56 rfl rfl ?_
          refine r_iload_n (pc := 57) dX6_change_57 rfl rfl ?_
          refine r_iload_n (pc := 58) dX6_change_58 rfl rfl ?_
          obtain ⟨m28, x29, q30, h⟩ := gCl_some h
          refine r_callS (pc := 59) [.ref _, .int _, .int _, .int _] (tX6_changeOn _ _ _ hF _ _ _ _ _ _ _ q30 b27) ⟨rfl, rfl⟩ cd_X6_changeOn wX6_143 nm_X6_changeOn rfl (by rw [hRm]; decide) rfl (Nat.le_of_ble_eq_true rfl) dX6_change_59 ?_
          exact r_iretH dX6_change_62 h he
        · refine r_iconst (pc := 46) (v := 0) dX6_change_46 (by decide) ?_
          exact r_iretH dX6_change_47 h he
      · refine r_iconst (pc := 35) (v := 0) dX6_change_35 (by decide) ?_
        refine r_goto (pc := 36) (tgt := 40) dX6_change_36 (by decide) ?_
        obtain ⟨m31, x32, q33, h⟩ := gCl_some h
        refine r_callV (kd := 5) (pc := 40) [.int _] (tX6_refused _ _ _ hF _ _ _ q33) ⟨rfl, rfl⟩ cd_X6_refused wX6_108 nm_X6_refused rfl (by rw [hRm]; decide) rfl (Nat.le_of_ble_eq_true rfl) rfl (by decide) (gO5 hF) dX6_change_40 ?_
        refine r_if_eq (pc := 43) (tgt := 48) dX6_change_43 (by decide) h (fun h => ?_) (fun h => ?_)
        · refine r_aload_n (pc := 48) dX6_change_48 rfl rfl ?_
          obtain ⟨m34, q36, h⟩ := gCv_some h
          refine r_callV (kd := 5) (pc := 49) [] (tX6_remember _ _ _ hF  _ _ q36) ⟨rfl, rfl⟩ cd_X6_remember wX6_214 nm_X6_remember rfl (by rw [hRm]; decide) rfl (Nat.le_of_ble_eq_true rfl) rfl (by decide) (gO5 hF) dX6_change_49 ?_
          refine r_aload_n (pc := 52) dX6_change_52 rfl rfl ?_
          refine fX6_13 (pc := 53) hF dX6_change_53 (fun b37 => ?_)
          refine r_iload_n (pc := 56) dX6_change_56 rfl rfl ?_
          refine r_iload_n (pc := 57) dX6_change_57 rfl rfl ?_
          refine r_iload_n (pc := 58) dX6_change_58 rfl rfl ?_
          obtain ⟨m38, x39, q40, h⟩ := gCl_some h
          refine r_callS (pc := 59) [.ref _, .int _, .int _, .int _] (tX6_changeOn _ _ _ hF _ _ _ _ _ _ _ q40 b37) ⟨rfl, rfl⟩ cd_X6_changeOn wX6_143 nm_X6_changeOn rfl (by rw [hRm]; decide) rfl (Nat.le_of_ble_eq_true rfl) dX6_change_59 ?_
          exact r_iretH dX6_change_62 h he
        · refine r_iconst (pc := 46) (v := 0) dX6_change_46 (by decide) ?_
          exact r_iretH dX6_change_47 h he
    · refine r_iconst (pc := 19) (v := 1) dX6_change_19 (by decide) ?_
      refine r_goto (pc := 20) (tgt := 40) dX6_change_20 (by decide) ?_
      obtain ⟨m41, x42, q43, h⟩ := gCl_some h
      refine r_callV (kd := 5) (pc := 40) [.int _] (tX6_refused _ _ _ hF _ _ _ q43) ⟨rfl, rfl⟩ cd_X6_refused wX6_108 nm_X6_refused rfl (by rw [hRm]; decide) rfl (Nat.le_of_ble_eq_true rfl) rfl (by decide) (gO5 hF) dX6_change_40 ?_
      refine r_if_eq (pc := 43) (tgt := 48) dX6_change_43 (by decide) h (fun h => ?_) (fun h => ?_)
      · refine r_aload_n (pc := 48) dX6_change_48 rfl rfl ?_
        obtain ⟨m44, q46, h⟩ := gCv_some h
        refine r_callV (kd := 5) (pc := 49) [] (tX6_remember _ _ _ hF  _ _ q46) ⟨rfl, rfl⟩ cd_X6_remember wX6_214 nm_X6_remember rfl (by rw [hRm]; decide) rfl (Nat.le_of_ble_eq_true rfl) rfl (by decide) (gO5 hF) dX6_change_49 ?_
        refine r_aload_n (pc := 52) dX6_change_52 rfl rfl ?_
        refine fX6_13 (pc := 53) hF dX6_change_53 (fun b47 => ?_)
        refine r_iload_n (pc := 56) dX6_change_56 rfl rfl ?_
        refine r_iload_n (pc := 57) dX6_change_57 rfl rfl ?_
        refine r_iload_n (pc := 58) dX6_change_58 rfl rfl ?_
        obtain ⟨m48, x49, q50, h⟩ := gCl_some h
        refine r_callS (pc := 59) [.ref _, .int _, .int _, .int _] (tX6_changeOn _ _ _ hF _ _ _ _ _ _ _ q50 b47) ⟨rfl, rfl⟩ cd_X6_changeOn wX6_143 nm_X6_changeOn rfl (by rw [hRm]; decide) rfl (Nat.le_of_ble_eq_true rfl) dX6_change_59 ?_
        exact r_iretH dX6_change_62 h he
      · refine r_iconst (pc := 46) (v := 0) dX6_change_46 (by decide) ?_
        exact r_iretH dX6_change_47 h he
def fX6_holiday (p1 : Int32) (p2 : Int32) (p3 : Int32) (m : gM) : Option (gM × Int32) := gCl (fX6_isCustomer 5824 258 p1 m) fun m2 x3 => (if x3 = 0 then gCl (fX6_refused 1 m2) fun m42 x43 => (if x43 = 0 then gCv (fX6_remember m42) fun m45 => gCl (fX6_holidayOn 5824 258 p1 p2 p3 m45) fun m49 x50 => some (m49, x50) else some (m42, 0)) else gCl (fX6_isSpan p2 p3 m2) fun m5 x6 => (if x6 = 0 then gCl (fX6_refused 2 m5) fun m32 x33 => (if x33 = 0 then gCv (fX6_remember m32) fun m35 => gCl (fX6_holidayOn 5824 258 p1 p2 p3 m35) fun m39 x40 => some (m39, x40) else some (m32, 0)) else gCl (fX6_of 5824 258 p1 14 m5) fun m9 x10 => (if 3 ≤ x10 then gCl (fX6_refused 3 m9) fun m12 x13 => (if x13 = 0 then gCv (fX6_remember m12) fun m15 => gCl (fX6_holidayOn 5824 258 p1 p2 p3 m15) fun m19 x20 => some (m19, x20) else some (m12, 0)) else gCl (fX6_refused 0 m9) fun m22 x23 => (if x23 = 0 then gCv (fX6_remember m22) fun m25 => gCl (fX6_holidayOn 5824 258 p1 p2 p3 m25) fun m29 x30 => some (m29, x30) else some (m22, 0)))))
abbrev rmX6_holiday : Room := { frames := 2, cells := 0, slots := 0, locals := 47 }
set_option maxHeartbeats 4000000 in
set_option maxRecDepth 100000 in
theorem tX6_holiday (l : Launch) (G : gX) (u : gU) (hF : gFull u) (p1 : Int32) (p2 : Int32) (p3 : Int32) (m : gM) (o : gM × Int32) (h : fX6_holiday p1 p2 p3 m = some o)  : gMet l G u yX6_holiday (.code yX6_holiday cX6_holiday 4 (some .int)) rmX6_holiday [.ref 5693, .int p1, .int p2, .int p3] m o.1 (some (.int o.2)) := by
  refine gMet_of (own := RX6) (k := 0) (by decide) rfl ⟨rfl, rfl⟩ (Nat.le_of_ble_eq_true rfl) [some (.ref 5693), some (.int p1), some (.int p2), some (.int p3)] rfl (fun Y hG hu hnL hLn hRm he => ?_)
  subst hG hu hLn
  unfold fX6_holiday at h
  refine r_aload_n (pc := 0) dX6_holiday_0 rfl rfl ?_
  refine r_aload_n (pc := 1) dX6_holiday_1 rfl rfl ?_
  refine fX6_13 (pc := 2) hF dX6_holiday_2 (fun b1 => ?_)
  refine r_iload_n (pc := 5) dX6_holiday_5 rfl rfl ?_
  obtain ⟨m2, x3, q4, h⟩ := gCl_some h
  refine r_callS (pc := 6) [.ref _, .int _] (tX6_isCustomer _ _ _ hF _ _ _ _ _ q4 b1) ⟨rfl, rfl⟩ cd_X6_isCustomer wX6_139 nm_X6_isCustomer rfl (by rw [hRm]; decide) rfl (Nat.le_of_ble_eq_true rfl) dX6_holiday_6 ?_
  refine r_if_ne (pc := 9) (tgt := 16) dX6_holiday_9 (by decide) h (fun h => ?_) (fun h => ?_)
  · refine r_iload_n (pc := 16) dX6_holiday_16 rfl rfl ?_
    refine r_iload_n (pc := 17) dX6_holiday_17 rfl rfl ?_
    obtain ⟨m5, x6, q7, h⟩ := gCl_some h
    refine r_callS (pc := 18) [.int _, .int _] (tX6_isSpan _ _ _ hF _ _ _ _ q7) ⟨rfl, rfl⟩ cd_X6_isSpan wX6_217 nm_X6_isSpan rfl (by rw [hRm]; decide) rfl (Nat.le_of_ble_eq_true rfl) dX6_holiday_18 ?_
    refine r_if_ne (pc := 21) (tgt := 28) dX6_holiday_21 (by decide) h (fun h => ?_) (fun h => ?_)
    · refine r_aload_n (pc := 28) dX6_holiday_28 rfl rfl ?_
      refine fX6_13 (pc := 29) hF dX6_holiday_29 (fun b8 => ?_)
      refine r_iload_n (pc := 32) dX6_holiday_32 rfl rfl ?_
      refine r_bipush (pc := 33) (v := 14) dX6_holiday_33 (by decide) ?_
      obtain ⟨m9, x10, q11, h⟩ := gCl_some h
      refine r_callS (pc := 35) [.ref _, .int _, .int _] (tX6_of _ _ _ hF _ _ _ _ _ _ q11 b8) ⟨rfl, rfl⟩ cd_X6_of wX6_53 nm_X6_of rfl (by rw [hRm]; decide) rfl (Nat.le_of_ble_eq_true rfl) dX6_holiday_35 ?_
      refine r_iconst (pc := 38) (v := 3) dX6_holiday_38 (by decide) ?_
      refine r_icmp_ge (pc := 39) (tgt := 46) dX6_holiday_39 (by decide) h (fun h => ?_) (fun h => ?_)
      · refine r_iconst (pc := 46) (v := 3) dX6_holiday_46 (by decide) ?_
        obtain ⟨m12, x13, q14, h⟩ := gCl_some h
        refine r_callV (kd := 5) (pc := 47) [.int _] (tX6_refused _ _ _ hF _ _ _ q14) ⟨rfl, rfl⟩ cd_X6_refused wX6_108 nm_X6_refused rfl (by rw [hRm]; decide) rfl (Nat.le_of_ble_eq_true rfl) rfl (by decide) (gO5 hF) dX6_holiday_47 ?_
        refine r_if_eq (pc := 50) (tgt := 55) dX6_holiday_50 (by decide) h (fun h => ?_) (fun h => ?_)
        · refine r_aload_n (pc := 55) dX6_holiday_55 rfl rfl ?_
          obtain ⟨m15, q17, h⟩ := gCv_some h
          refine r_callV (kd := 5) (pc := 56) [] (tX6_remember _ _ _ hF  _ _ q17) ⟨rfl, rfl⟩ cd_X6_remember wX6_214 nm_X6_remember rfl (by rw [hRm]; decide) rfl (Nat.le_of_ble_eq_true rfl) rfl (by decide) (gO5 hF) dX6_holiday_56 ?_
          refine r_aload_n (pc := 59) dX6_holiday_59 rfl rfl ?_
          refine fX6_13 (pc := 60) hF dX6_holiday_60 (fun b18 => ?_)
          refine r_iload_n (pc := 63) dX6_holiday_63 rfl rfl ?_
          refine r_iload_n (pc := 64) dX6_holiday_64 rfl rfl ?_
          refine r_iload_n (pc := 65) dX6_holiday_65 rfl rfl ?_
          obtain ⟨m19, x20, q21, h⟩ := gCl_some h
          refine r_callS (pc := 66) [.ref _, .int _, .int _, .int _] (tX6_holidayOn _ _ _ hF _ _ _ _ _ _ _ q21 b18) ⟨rfl, rfl⟩ cd_X6_holidayOn wX6_146 nm_X6_holidayOn rfl (by rw [hRm]; decide) rfl (Nat.le_of_ble_eq_true rfl) dX6_holiday_66 ?_
          exact r_iretH dX6_holiday_69 h he
        · refine r_iconst (pc := 53) (v := 0) dX6_holiday_53 (by decide) ?_
          exact r_iretH dX6_holiday_54 h he
      · refine r_iconst (pc := 42) (v := 0) dX6_holiday_42 (by decide) ?_
        refine r_goto (pc := 43) (tgt := 47) dX6_holiday_43 (by decide) ?_
        obtain ⟨m22, x23, q24, h⟩ := gCl_some h
        refine r_callV (kd := 5) (pc := 47) [.int _] (tX6_refused _ _ _ hF _ _ _ q24) ⟨rfl, rfl⟩ cd_X6_refused wX6_108 nm_X6_refused rfl (by rw [hRm]; decide) rfl (Nat.le_of_ble_eq_true rfl) rfl (by decide) (gO5 hF) dX6_holiday_47 ?_
        refine r_if_eq (pc := 50) (tgt := 55) dX6_holiday_50 (by decide) h (fun h => ?_) (fun h => ?_)
        · refine r_aload_n (pc := 55) dX6_holiday_55 rfl rfl ?_
          obtain ⟨m25, q27, h⟩ := gCv_some h
          refine r_callV (kd := 5) (pc := 56) [] (tX6_remember _ _ _ hF  _ _ q27) ⟨rfl, rfl⟩ cd_X6_remember wX6_214 nm_X6_remember rfl (by rw [hRm]; decide) rfl (Nat.le_of_ble_eq_true rfl) rfl (by decide) (gO5 hF) dX6_holiday_56 ?_
          refine r_aload_n (pc := 59) dX6_holiday_59 rfl rfl ?_
          refine fX6_13 (pc := 60) hF dX6_holiday_60 (fun b28 => ?_)
          refine r_iload_n (pc := 63) dX6_holiday_63 rfl rfl ?_
          refine r_iload_n (pc := 64) dX6_holiday_64 rfl rfl ?_
          refine r_iload_n (pc := 65) dX6_holiday_65 rfl rfl ?_
          obtain ⟨m29, x30, q31, h⟩ := gCl_some h
          refine r_callS (pc := 66) [.ref _, .int _, .int _, .int _] (tX6_holidayOn _ _ _ hF _ _ _ _ _ _ _ q31 b28) ⟨rfl, rfl⟩ cd_X6_holidayOn wX6_146 nm_X6_holidayOn rfl (by rw [hRm]; decide) rfl (Nat.le_of_ble_eq_true rfl) dX6_holiday_66 ?_
          exact r_iretH dX6_holiday_69 h he
        · refine r_iconst (pc := 53) (v := 0) dX6_holiday_53 (by decide) ?_
          exact r_iretH dX6_holiday_54 h he
    · refine r_iconst (pc := 24) (v := 2) dX6_holiday_24 (by decide) ?_
      refine r_goto (pc := 25) (tgt := 47) dX6_holiday_25 (by decide) ?_
      obtain ⟨m32, x33, q34, h⟩ := gCl_some h
      refine r_callV (kd := 5) (pc := 47) [.int _] (tX6_refused _ _ _ hF _ _ _ q34) ⟨rfl, rfl⟩ cd_X6_refused wX6_108 nm_X6_refused rfl (by rw [hRm]; decide) rfl (Nat.le_of_ble_eq_true rfl) rfl (by decide) (gO5 hF) dX6_holiday_47 ?_
      refine r_if_eq (pc := 50) (tgt := 55) dX6_holiday_50 (by decide) h (fun h => ?_) (fun h => ?_)
      · refine r_aload_n (pc := 55) dX6_holiday_55 rfl rfl ?_
        obtain ⟨m35, q37, h⟩ := gCv_some h
        refine r_callV (kd := 5) (pc := 56) [] (tX6_remember _ _ _ hF  _ _ q37) ⟨rfl, rfl⟩ cd_X6_remember wX6_214 nm_X6_remember rfl (by rw [hRm]; decide) rfl (Nat.le_of_ble_eq_true rfl) rfl (by decide) (gO5 hF) dX6_holiday_56 ?_
        refine r_aload_n (pc := 59) dX6_holiday_59 rfl rfl ?_
        refine fX6_13 (pc := 60) hF dX6_holiday_60 (fun b38 => ?_)
        refine r_iload_n (pc := 63) dX6_holiday_63 rfl rfl ?_
        refine r_iload_n (pc := 64) dX6_holiday_64 rfl rfl ?_
        refine r_iload_n (pc := 65) dX6_holiday_65 rfl rfl ?_
        obtain ⟨m39, x40, q41, h⟩ := gCl_some h
        refine r_callS (pc := 66) [.ref _, .int _, .int _, .int _] (tX6_holidayOn _ _ _ hF _ _ _ _ _ _ _ q41 b38) ⟨rfl, rfl⟩ cd_X6_holidayOn wX6_146 nm_X6_holidayOn rfl (by rw [hRm]; decide) rfl (Nat.le_of_ble_eq_true rfl) dX6_holiday_66 ?_
        exact r_iretH dX6_holiday_69 h he
      · refine r_iconst (pc := 53) (v := 0) dX6_holiday_53 (by decide) ?_
        exact r_iretH dX6_holiday_54 h he
  · refine r_iconst (pc := 12) (v := 1) dX6_holiday_12 (by decide) ?_
    refine r_goto (pc := 13) (tgt := 47) dX6_holiday_13 (by decide) ?_
    obtain ⟨m42, x43, q44, h⟩ := gCl_some h
    refine r_callV (kd := 5) (pc := 47) [.int _] (tX6_refused _ _ _ hF _ _ _ q44) ⟨rfl, rfl⟩ cd_X6_refused wX6_108 nm_X6_refused rfl (by rw [hRm]; decide) rfl (Nat.le_of_ble_eq_true rfl) rfl (by decide) (gO5 hF) dX6_holiday_47 ?_
    refine r_if_eq (pc := 50) (tgt := 55) dX6_holiday_50 (by decide) h (fun h => ?_) (fun h => ?_)
    · refine r_aload_n (pc := 55) dX6_holiday_55 rfl rfl ?_
      obtain ⟨m45, q47, h⟩ := gCv_some h
      refine r_callV (kd := 5) (pc := 56) [] (tX6_remember _ _ _ hF  _ _ q47) ⟨rfl, rfl⟩ cd_X6_remember wX6_214 nm_X6_remember rfl (by rw [hRm]; decide) rfl (Nat.le_of_ble_eq_true rfl) rfl (by decide) (gO5 hF) dX6_holiday_56 ?_
      refine r_aload_n (pc := 59) dX6_holiday_59 rfl rfl ?_
      refine fX6_13 (pc := 60) hF dX6_holiday_60 (fun b48 => ?_)
      refine r_iload_n (pc := 63) dX6_holiday_63 rfl rfl ?_
      refine r_iload_n (pc := 64) dX6_holiday_64 rfl rfl ?_
      refine r_iload_n (pc := 65) dX6_holiday_65 rfl rfl ?_
      obtain ⟨m49, x50, q51, h⟩ := gCl_some h
      refine r_callS (pc := 66) [.ref _, .int _, .int _, .int _] (tX6_holidayOn _ _ _ hF _ _ _ _ _ _ _ q51 b48) ⟨rfl, rfl⟩ cd_X6_holidayOn wX6_146 nm_X6_holidayOn rfl (by rw [hRm]; decide) rfl (Nat.le_of_ble_eq_true rfl) dX6_holiday_66 ?_
      exact r_iretH dX6_holiday_69 h he
    · refine r_iconst (pc := 53) (v := 0) dX6_holiday_53 (by decide) ?_
      exact r_iretH dX6_holiday_54 h he
def fX6_drop (p1 : Int32) (p2 : Int32) (m : gM) : Option (gM × Int32) := gCl (fX6_isCustomer 5824 258 p1 m) fun m2 x3 => (if x3 = 0 then gCl (fX6_refused 1 m2) fun m5 x6 => (if x6 = 0 then gCv (fX6_remember m5) fun m8 => gCl (fX6_dropOn 5824 258 p1 p2 m8) fun m12 x13 => some (m12, x13) else some (m5, 0)) else gCl (fX6_of 5824 258 p1 14 m2) fun m16 x17 => gCl (fX6_in (p2.toInt64) 0 ((x17 - 1).toInt64) m16) fun m19 x20 => (if x20 = 0 then gCl (fX6_refused 1 m19) fun m22 x23 => (if x23 = 0 then gCv (fX6_remember m22) fun m25 => gCl (fX6_dropOn 5824 258 p1 p2 m25) fun m29 x30 => some (m29, x30) else some (m22, 0)) else gCl (fX6_refused 0 m19) fun m32 x33 => (if x33 = 0 then gCv (fX6_remember m32) fun m35 => gCl (fX6_dropOn 5824 258 p1 p2 m35) fun m39 x40 => some (m39, x40) else some (m32, 0))))
abbrev rmX6_drop : Room := { frames := 2, cells := 0, slots := 0, locals := 47 }
set_option maxHeartbeats 4000000 in
set_option maxRecDepth 100000 in
theorem tX6_drop (l : Launch) (G : gX) (u : gU) (hF : gFull u) (p1 : Int32) (p2 : Int32) (m : gM) (o : gM × Int32) (h : fX6_drop p1 p2 m = some o)  : gMet l G u yX6_drop (.code yX6_drop cX6_drop 3 (some .int)) rmX6_drop [.ref 5693, .int p1, .int p2] m o.1 (some (.int o.2)) := by
  refine gMet_of (own := RX6) (k := 0) (by decide) rfl ⟨rfl, rfl⟩ (Nat.le_of_ble_eq_true rfl) [some (.ref 5693), some (.int p1), some (.int p2)] rfl (fun Y hG hu hnL hLn hRm he => ?_)
  subst hG hu hLn
  unfold fX6_drop at h
  refine r_aload_n (pc := 0) dX6_drop_0 rfl rfl ?_
  refine r_aload_n (pc := 1) dX6_drop_1 rfl rfl ?_
  refine fX6_13 (pc := 2) hF dX6_drop_2 (fun b1 => ?_)
  refine r_iload_n (pc := 5) dX6_drop_5 rfl rfl ?_
  obtain ⟨m2, x3, q4, h⟩ := gCl_some h
  refine r_callS (pc := 6) [.ref _, .int _] (tX6_isCustomer _ _ _ hF _ _ _ _ _ q4 b1) ⟨rfl, rfl⟩ cd_X6_isCustomer wX6_139 nm_X6_isCustomer rfl (by rw [hRm]; decide) rfl (Nat.le_of_ble_eq_true rfl) dX6_drop_6 ?_
  refine r_if_eq (pc := 9) (tgt := 38) dX6_drop_9 (by decide) h (fun h => ?_) (fun h => ?_)
  · refine r_iconst (pc := 38) (v := 1) dX6_drop_38 (by decide) ?_
    obtain ⟨m5, x6, q7, h⟩ := gCl_some h
    refine r_callV (kd := 5) (pc := 39) [.int _] (tX6_refused _ _ _ hF _ _ _ q7) ⟨rfl, rfl⟩ cd_X6_refused wX6_108 nm_X6_refused rfl (by rw [hRm]; decide) rfl (Nat.le_of_ble_eq_true rfl) rfl (by decide) (gO5 hF) dX6_drop_39 ?_
    refine r_if_eq (pc := 42) (tgt := 47) dX6_drop_42 (by decide) h (fun h => ?_) (fun h => ?_)
    · refine r_aload_n (pc := 47) dX6_drop_47 rfl rfl ?_
      obtain ⟨m8, q10, h⟩ := gCv_some h
      refine r_callV (kd := 5) (pc := 48) [] (tX6_remember _ _ _ hF  _ _ q10) ⟨rfl, rfl⟩ cd_X6_remember wX6_214 nm_X6_remember rfl (by rw [hRm]; decide) rfl (Nat.le_of_ble_eq_true rfl) rfl (by decide) (gO5 hF) dX6_drop_48 ?_
      refine r_aload_n (pc := 51) dX6_drop_51 rfl rfl ?_
      refine fX6_13 (pc := 52) hF dX6_drop_52 (fun b11 => ?_)
      refine r_iload_n (pc := 55) dX6_drop_55 rfl rfl ?_
      refine r_iload_n (pc := 56) dX6_drop_56 rfl rfl ?_
      obtain ⟨m12, x13, q14, h⟩ := gCl_some h
      refine r_callS (pc := 57) [.ref _, .int _, .int _] (tX6_dropOn _ _ _ hF _ _ _ _ _ _ q14 b11) ⟨rfl, rfl⟩ cd_X6_dropOn wX6_220 nm_X6_dropOn rfl (by rw [hRm]; decide) rfl (Nat.le_of_ble_eq_true rfl) dX6_drop_57 ?_
      exact r_iretH dX6_drop_60 h he
    · refine r_iconst (pc := 45) (v := 0) dX6_drop_45 (by decide) ?_
      exact r_iretH dX6_drop_46 h he
  · refine r_iload_n (pc := 12) dX6_drop_12 rfl rfl ?_
    refine r_i2l (pc := 13) dX6_drop_13 ?_
    refine r_lconst (pc := 14) (v := 0) dX6_drop_14 (by decide) ?_
    refine r_aload_n (pc := 15) dX6_drop_15 rfl rfl ?_
    refine fX6_13 (pc := 16) hF dX6_drop_16 (fun b15 => ?_)
    refine r_iload_n (pc := 19) dX6_drop_19 rfl rfl ?_
    refine r_bipush (pc := 20) (v := 14) dX6_drop_20 (by decide) ?_
    obtain ⟨m16, x17, q18, h⟩ := gCl_some h
    refine r_callS (pc := 22) [.ref _, .int _, .int _] (tX6_of _ _ _ hF _ _ _ _ _ _ q18 b15) ⟨rfl, rfl⟩ cd_X6_of wX6_53 nm_X6_of rfl (by rw [hRm]; decide) rfl (Nat.le_of_ble_eq_true rfl) dX6_drop_22 ?_
    refine r_iconst (pc := 25) (v := 1) dX6_drop_25 (by decide) ?_
    refine r_isub (pc := 26) dX6_drop_26 ?_
    refine r_i2l (pc := 27) dX6_drop_27 ?_
    obtain ⟨m19, x20, q21, h⟩ := gCl_some h
    refine r_callS (pc := 28) [.long _, .long _, .long _] (tX6_in _ _ _ hF _ _ _ _ _ q21) ⟨rfl, rfl⟩ cd_X6_in wX6_37 nm_X6_in rfl (by rw [hRm]; decide) rfl (Nat.le_of_ble_eq_true rfl) dX6_drop_28 ?_
    refine r_if_eq (pc := 31) (tgt := 38) dX6_drop_31 (by decide) h (fun h => ?_) (fun h => ?_)
    · refine r_iconst (pc := 38) (v := 1) dX6_drop_38 (by decide) ?_
      obtain ⟨m22, x23, q24, h⟩ := gCl_some h
      refine r_callV (kd := 5) (pc := 39) [.int _] (tX6_refused _ _ _ hF _ _ _ q24) ⟨rfl, rfl⟩ cd_X6_refused wX6_108 nm_X6_refused rfl (by rw [hRm]; decide) rfl (Nat.le_of_ble_eq_true rfl) rfl (by decide) (gO5 hF) dX6_drop_39 ?_
      refine r_if_eq (pc := 42) (tgt := 47) dX6_drop_42 (by decide) h (fun h => ?_) (fun h => ?_)
      · refine r_aload_n (pc := 47) dX6_drop_47 rfl rfl ?_
        obtain ⟨m25, q27, h⟩ := gCv_some h
        refine r_callV (kd := 5) (pc := 48) [] (tX6_remember _ _ _ hF  _ _ q27) ⟨rfl, rfl⟩ cd_X6_remember wX6_214 nm_X6_remember rfl (by rw [hRm]; decide) rfl (Nat.le_of_ble_eq_true rfl) rfl (by decide) (gO5 hF) dX6_drop_48 ?_
        refine r_aload_n (pc := 51) dX6_drop_51 rfl rfl ?_
        refine fX6_13 (pc := 52) hF dX6_drop_52 (fun b28 => ?_)
        refine r_iload_n (pc := 55) dX6_drop_55 rfl rfl ?_
        refine r_iload_n (pc := 56) dX6_drop_56 rfl rfl ?_
        obtain ⟨m29, x30, q31, h⟩ := gCl_some h
        refine r_callS (pc := 57) [.ref _, .int _, .int _] (tX6_dropOn _ _ _ hF _ _ _ _ _ _ q31 b28) ⟨rfl, rfl⟩ cd_X6_dropOn wX6_220 nm_X6_dropOn rfl (by rw [hRm]; decide) rfl (Nat.le_of_ble_eq_true rfl) dX6_drop_57 ?_
        exact r_iretH dX6_drop_60 h he
      · refine r_iconst (pc := 45) (v := 0) dX6_drop_45 (by decide) ?_
        exact r_iretH dX6_drop_46 h he
    · refine r_iconst (pc := 34) (v := 0) dX6_drop_34 (by decide) ?_
      refine r_goto (pc := 35) (tgt := 39) dX6_drop_35 (by decide) ?_
      obtain ⟨m32, x33, q34, h⟩ := gCl_some h
      refine r_callV (kd := 5) (pc := 39) [.int _] (tX6_refused _ _ _ hF _ _ _ q34) ⟨rfl, rfl⟩ cd_X6_refused wX6_108 nm_X6_refused rfl (by rw [hRm]; decide) rfl (Nat.le_of_ble_eq_true rfl) rfl (by decide) (gO5 hF) dX6_drop_39 ?_
      refine r_if_eq (pc := 42) (tgt := 47) dX6_drop_42 (by decide) h (fun h => ?_) (fun h => ?_)
      · refine r_aload_n (pc := 47) dX6_drop_47 rfl rfl ?_
        obtain ⟨m35, q37, h⟩ := gCv_some h
        refine r_callV (kd := 5) (pc := 48) [] (tX6_remember _ _ _ hF  _ _ q37) ⟨rfl, rfl⟩ cd_X6_remember wX6_214 nm_X6_remember rfl (by rw [hRm]; decide) rfl (Nat.le_of_ble_eq_true rfl) rfl (by decide) (gO5 hF) dX6_drop_48 ?_
        refine r_aload_n (pc := 51) dX6_drop_51 rfl rfl ?_
        refine fX6_13 (pc := 52) hF dX6_drop_52 (fun b38 => ?_)
        refine r_iload_n (pc := 55) dX6_drop_55 rfl rfl ?_
        refine r_iload_n (pc := 56) dX6_drop_56 rfl rfl ?_
        obtain ⟨m39, x40, q41, h⟩ := gCl_some h
        refine r_callS (pc := 57) [.ref _, .int _, .int _] (tX6_dropOn _ _ _ hF _ _ _ _ _ _ q41 b38) ⟨rfl, rfl⟩ cd_X6_dropOn wX6_220 nm_X6_dropOn rfl (by rw [hRm]; decide) rfl (Nat.le_of_ble_eq_true rfl) dX6_drop_57 ?_
        exact r_iretH dX6_drop_60 h he
      · refine r_iconst (pc := 45) (v := 0) dX6_drop_45 (by decide) ?_
        exact r_iretH dX6_drop_46 h he
def fX6_close (p1 : Int32) (p2 : Int32) (p3 : Int32) (m : gM) : Option (gM × Int32) := gCl (fX6_isStreet p1 m) fun m1 x2 => (if x2 = 0 then gCl (fX6_refused 1 m1) fun m4 x5 => (if x5 = 0 then gCv (fX6_remember m4) fun m7 => gCl (fX6_closeOn 5824 258 p1 p2 p3 m7) fun m11 x12 => some (m11, x12) else some (m4, 0)) else gCl (fX6_isWeekday p2 m1) fun m14 x15 => (if x15 = 0 then gCl (fX6_refused 1 m14) fun m17 x18 => (if x18 = 0 then gCv (fX6_remember m17) fun m20 => gCl (fX6_closeOn 5824 258 p1 p2 p3 m20) fun m24 x25 => some (m24, x25) else some (m17, 0)) else gCl (fX6_refused 0 m14) fun m27 x28 => (if x28 = 0 then gCv (fX6_remember m27) fun m30 => gCl (fX6_closeOn 5824 258 p1 p2 p3 m30) fun m34 x35 => some (m34, x35) else some (m27, 0))))
abbrev rmX6_close : Room := { frames := 2, cells := 0, slots := 0, locals := 45 }
set_option maxHeartbeats 4000000 in
set_option maxRecDepth 100000 in
theorem tX6_close (l : Launch) (G : gX) (u : gU) (hF : gFull u) (p1 : Int32) (p2 : Int32) (p3 : Int32) (m : gM) (o : gM × Int32) (h : fX6_close p1 p2 p3 m = some o)  : gMet l G u yX6_close (.code yX6_close cX6_close 4 (some .int)) rmX6_close [.ref 5693, .int p1, .int p2, .int p3] m o.1 (some (.int o.2)) := by
  refine gMet_of (own := RX6) (k := 0) (by decide) rfl ⟨rfl, rfl⟩ (Nat.le_of_ble_eq_true rfl) [some (.ref 5693), some (.int p1), some (.int p2), some (.int p3)] rfl (fun Y hG hu hnL hLn hRm he => ?_)
  subst hG hu hLn
  unfold fX6_close at h
  refine r_aload_n (pc := 0) dX6_close_0 rfl rfl ?_
  refine r_iload_n (pc := 1) dX6_close_1 rfl rfl ?_
  obtain ⟨m1, x2, q3, h⟩ := gCl_some h
  refine r_callS (pc := 2) [.int _] (tX6_isStreet _ _ _ hF _ _ _ q3) ⟨rfl, rfl⟩ cd_X6_isStreet wX6_205 nm_X6_isStreet rfl (by rw [hRm]; decide) rfl (Nat.le_of_ble_eq_true rfl) dX6_close_2 ?_
  refine r_if_eq (pc := 5) (tgt := 19) dX6_close_5 (by decide) h (fun h => ?_) (fun h => ?_)
  · refine r_iconst (pc := 19) (v := 1) dX6_close_19 (by decide) ?_
    obtain ⟨m4, x5, q6, h⟩ := gCl_some h
    refine r_callV (kd := 5) (pc := 20) [.int _] (tX6_refused _ _ _ hF _ _ _ q6) ⟨rfl, rfl⟩ cd_X6_refused wX6_108 nm_X6_refused rfl (by rw [hRm]; decide) rfl (Nat.le_of_ble_eq_true rfl) rfl (by decide) (gO5 hF) dX6_close_20 ?_
    refine r_if_eq (pc := 23) (tgt := 28) dX6_close_23 (by decide) h (fun h => ?_) (fun h => ?_)
    · refine r_aload_n (pc := 28) dX6_close_28 rfl rfl ?_
      obtain ⟨m7, q9, h⟩ := gCv_some h
      refine r_callV (kd := 5) (pc := 29) [] (tX6_remember _ _ _ hF  _ _ q9) ⟨rfl, rfl⟩ cd_X6_remember wX6_214 nm_X6_remember rfl (by rw [hRm]; decide) rfl (Nat.le_of_ble_eq_true rfl) rfl (by decide) (gO5 hF) dX6_close_29 ?_
      refine r_aload_n (pc := 32) dX6_close_32 rfl rfl ?_
      refine fX6_13 (pc := 33) hF dX6_close_33 (fun b10 => ?_)
      refine r_iload_n (pc := 36) dX6_close_36 rfl rfl ?_
      refine r_iload_n (pc := 37) dX6_close_37 rfl rfl ?_
      refine r_iload_n (pc := 38) dX6_close_38 rfl rfl ?_
      obtain ⟨m11, x12, q13, h⟩ := gCl_some h
      refine r_callS (pc := 39) [.ref _, .int _, .int _, .int _] (tX6_closeOn _ _ _ hF _ _ _ _ _ _ _ q13 b10) ⟨rfl, rfl⟩ cd_X6_closeOn wX6_149 nm_X6_closeOn rfl (by rw [hRm]; decide) rfl (Nat.le_of_ble_eq_true rfl) dX6_close_39 ?_
      exact r_iretH dX6_close_42 h he
    · refine r_iconst (pc := 26) (v := 0) dX6_close_26 (by decide) ?_
      exact r_iretH dX6_close_27 h he
  · refine r_iload_n (pc := 8) dX6_close_8 rfl rfl ?_
    obtain ⟨m14, x15, q16, h⟩ := gCl_some h
    refine r_callS (pc := 9) [.int _] (tX6_isWeekday _ _ _ hF _ _ _ q16) ⟨rfl, rfl⟩ cd_X6_isWeekday wX6_200 nm_X6_isWeekday rfl (by rw [hRm]; decide) rfl (Nat.le_of_ble_eq_true rfl) dX6_close_9 ?_
    refine r_if_eq (pc := 12) (tgt := 19) dX6_close_12 (by decide) h (fun h => ?_) (fun h => ?_)
    · refine r_iconst (pc := 19) (v := 1) dX6_close_19 (by decide) ?_
      obtain ⟨m17, x18, q19, h⟩ := gCl_some h
      refine r_callV (kd := 5) (pc := 20) [.int _] (tX6_refused _ _ _ hF _ _ _ q19) ⟨rfl, rfl⟩ cd_X6_refused wX6_108 nm_X6_refused rfl (by rw [hRm]; decide) rfl (Nat.le_of_ble_eq_true rfl) rfl (by decide) (gO5 hF) dX6_close_20 ?_
      refine r_if_eq (pc := 23) (tgt := 28) dX6_close_23 (by decide) h (fun h => ?_) (fun h => ?_)
      · refine r_aload_n (pc := 28) dX6_close_28 rfl rfl ?_
        obtain ⟨m20, q22, h⟩ := gCv_some h
        refine r_callV (kd := 5) (pc := 29) [] (tX6_remember _ _ _ hF  _ _ q22) ⟨rfl, rfl⟩ cd_X6_remember wX6_214 nm_X6_remember rfl (by rw [hRm]; decide) rfl (Nat.le_of_ble_eq_true rfl) rfl (by decide) (gO5 hF) dX6_close_29 ?_
        refine r_aload_n (pc := 32) dX6_close_32 rfl rfl ?_
        refine fX6_13 (pc := 33) hF dX6_close_33 (fun b23 => ?_)
        refine r_iload_n (pc := 36) dX6_close_36 rfl rfl ?_
        refine r_iload_n (pc := 37) dX6_close_37 rfl rfl ?_
        refine r_iload_n (pc := 38) dX6_close_38 rfl rfl ?_
        obtain ⟨m24, x25, q26, h⟩ := gCl_some h
        refine r_callS (pc := 39) [.ref _, .int _, .int _, .int _] (tX6_closeOn _ _ _ hF _ _ _ _ _ _ _ q26 b23) ⟨rfl, rfl⟩ cd_X6_closeOn wX6_149 nm_X6_closeOn rfl (by rw [hRm]; decide) rfl (Nat.le_of_ble_eq_true rfl) dX6_close_39 ?_
        exact r_iretH dX6_close_42 h he
      · refine r_iconst (pc := 26) (v := 0) dX6_close_26 (by decide) ?_
        exact r_iretH dX6_close_27 h he
    · refine r_iconst (pc := 15) (v := 0) dX6_close_15 (by decide) ?_
      refine r_goto (pc := 16) (tgt := 20) dX6_close_16 (by decide) ?_
      obtain ⟨m27, x28, q29, h⟩ := gCl_some h
      refine r_callV (kd := 5) (pc := 20) [.int _] (tX6_refused _ _ _ hF _ _ _ q29) ⟨rfl, rfl⟩ cd_X6_refused wX6_108 nm_X6_refused rfl (by rw [hRm]; decide) rfl (Nat.le_of_ble_eq_true rfl) rfl (by decide) (gO5 hF) dX6_close_20 ?_
      refine r_if_eq (pc := 23) (tgt := 28) dX6_close_23 (by decide) h (fun h => ?_) (fun h => ?_)
      · refine r_aload_n (pc := 28) dX6_close_28 rfl rfl ?_
        obtain ⟨m30, q32, h⟩ := gCv_some h
        refine r_callV (kd := 5) (pc := 29) [] (tX6_remember _ _ _ hF  _ _ q32) ⟨rfl, rfl⟩ cd_X6_remember wX6_214 nm_X6_remember rfl (by rw [hRm]; decide) rfl (Nat.le_of_ble_eq_true rfl) rfl (by decide) (gO5 hF) dX6_close_29 ?_
        refine r_aload_n (pc := 32) dX6_close_32 rfl rfl ?_
        refine fX6_13 (pc := 33) hF dX6_close_33 (fun b33 => ?_)
        refine r_iload_n (pc := 36) dX6_close_36 rfl rfl ?_
        refine r_iload_n (pc := 37) dX6_close_37 rfl rfl ?_
        refine r_iload_n (pc := 38) dX6_close_38 rfl rfl ?_
        obtain ⟨m34, x35, q36, h⟩ := gCl_some h
        refine r_callS (pc := 39) [.ref _, .int _, .int _, .int _] (tX6_closeOn _ _ _ hF _ _ _ _ _ _ _ q36 b33) ⟨rfl, rfl⟩ cd_X6_closeOn wX6_149 nm_X6_closeOn rfl (by rw [hRm]; decide) rfl (Nat.le_of_ble_eq_true rfl) dX6_close_39 ?_
        exact r_iretH dX6_close_42 h he
      · refine r_iconst (pc := 26) (v := 0) dX6_close_26 (by decide) ?_
        exact r_iretH dX6_close_27 h he
def fX6_swap (p1 : Int32) (p2 : Int32) (m : gM) : Option (gM × Int32) := gCl (fX6_isStreet p1 m) fun m1 x2 => (if x2 = 0 then gCl (fX6_refused 1 m1) fun m4 x5 => (if x5 = 0 then gCv (fX6_remember m4) fun m7 => gCl (fX6_swapOn 5824 258 p1 p2 m7) fun m11 x12 => some (m11, x12) else some (m4, 0)) else gCl (fX6_isStreet p2 m1) fun m14 x15 => (if x15 = 0 then gCl (fX6_refused 1 m14) fun m17 x18 => (if x18 = 0 then gCv (fX6_remember m17) fun m20 => gCl (fX6_swapOn 5824 258 p1 p2 m20) fun m24 x25 => some (m24, x25) else some (m17, 0)) else gCl (fX6_refused 0 m14) fun m27 x28 => (if x28 = 0 then gCv (fX6_remember m27) fun m30 => gCl (fX6_swapOn 5824 258 p1 p2 m30) fun m34 x35 => some (m34, x35) else some (m27, 0))))
abbrev rmX6_swap : Room := { frames := 2, cells := 0, slots := 0, locals := 46 }
set_option maxHeartbeats 4000000 in
set_option maxRecDepth 100000 in
theorem tX6_swap (l : Launch) (G : gX) (u : gU) (hF : gFull u) (p1 : Int32) (p2 : Int32) (m : gM) (o : gM × Int32) (h : fX6_swap p1 p2 m = some o)  : gMet l G u yX6_swap (.code yX6_swap cX6_swap 3 (some .int)) rmX6_swap [.ref 5693, .int p1, .int p2] m o.1 (some (.int o.2)) := by
  refine gMet_of (own := RX6) (k := 0) (by decide) rfl ⟨rfl, rfl⟩ (Nat.le_of_ble_eq_true rfl) [some (.ref 5693), some (.int p1), some (.int p2)] rfl (fun Y hG hu hnL hLn hRm he => ?_)
  subst hG hu hLn
  unfold fX6_swap at h
  refine r_aload_n (pc := 0) dX6_swap_0 rfl rfl ?_
  refine r_iload_n (pc := 1) dX6_swap_1 rfl rfl ?_
  obtain ⟨m1, x2, q3, h⟩ := gCl_some h
  refine r_callS (pc := 2) [.int _] (tX6_isStreet _ _ _ hF _ _ _ q3) ⟨rfl, rfl⟩ cd_X6_isStreet wX6_205 nm_X6_isStreet rfl (by rw [hRm]; decide) rfl (Nat.le_of_ble_eq_true rfl) dX6_swap_2 ?_
  refine r_if_eq (pc := 5) (tgt := 19) dX6_swap_5 (by decide) h (fun h => ?_) (fun h => ?_)
  · refine r_iconst (pc := 19) (v := 1) dX6_swap_19 (by decide) ?_
    obtain ⟨m4, x5, q6, h⟩ := gCl_some h
    refine r_callV (kd := 5) (pc := 20) [.int _] (tX6_refused _ _ _ hF _ _ _ q6) ⟨rfl, rfl⟩ cd_X6_refused wX6_108 nm_X6_refused rfl (by rw [hRm]; decide) rfl (Nat.le_of_ble_eq_true rfl) rfl (by decide) (gO5 hF) dX6_swap_20 ?_
    refine r_if_eq (pc := 23) (tgt := 28) dX6_swap_23 (by decide) h (fun h => ?_) (fun h => ?_)
    · refine r_aload_n (pc := 28) dX6_swap_28 rfl rfl ?_
      obtain ⟨m7, q9, h⟩ := gCv_some h
      refine r_callV (kd := 5) (pc := 29) [] (tX6_remember _ _ _ hF  _ _ q9) ⟨rfl, rfl⟩ cd_X6_remember wX6_214 nm_X6_remember rfl (by rw [hRm]; decide) rfl (Nat.le_of_ble_eq_true rfl) rfl (by decide) (gO5 hF) dX6_swap_29 ?_
      refine r_aload_n (pc := 32) dX6_swap_32 rfl rfl ?_
      refine fX6_13 (pc := 33) hF dX6_swap_33 (fun b10 => ?_)
      refine r_iload_n (pc := 36) dX6_swap_36 rfl rfl ?_
      refine r_iload_n (pc := 37) dX6_swap_37 rfl rfl ?_
      obtain ⟨m11, x12, q13, h⟩ := gCl_some h
      refine r_callS (pc := 38) [.ref _, .int _, .int _] (tX6_swapOn _ _ _ hF _ _ _ _ _ _ q13 b10) ⟨rfl, rfl⟩ cd_X6_swapOn wX6_166 nm_X6_swapOn rfl (by rw [hRm]; decide) rfl (Nat.le_of_ble_eq_true rfl) dX6_swap_38 ?_
      exact r_iretH dX6_swap_41 h he
    · refine r_iconst (pc := 26) (v := 0) dX6_swap_26 (by decide) ?_
      exact r_iretH dX6_swap_27 h he
  · refine r_iload_n (pc := 8) dX6_swap_8 rfl rfl ?_
    obtain ⟨m14, x15, q16, h⟩ := gCl_some h
    refine r_callS (pc := 9) [.int _] (tX6_isStreet _ _ _ hF _ _ _ q16) ⟨rfl, rfl⟩ cd_X6_isStreet wX6_205 nm_X6_isStreet rfl (by rw [hRm]; decide) rfl (Nat.le_of_ble_eq_true rfl) dX6_swap_9 ?_
    refine r_if_eq (pc := 12) (tgt := 19) dX6_swap_12 (by decide) h (fun h => ?_) (fun h => ?_)
    · refine r_iconst (pc := 19) (v := 1) dX6_swap_19 (by decide) ?_
      obtain ⟨m17, x18, q19, h⟩ := gCl_some h
      refine r_callV (kd := 5) (pc := 20) [.int _] (tX6_refused _ _ _ hF _ _ _ q19) ⟨rfl, rfl⟩ cd_X6_refused wX6_108 nm_X6_refused rfl (by rw [hRm]; decide) rfl (Nat.le_of_ble_eq_true rfl) rfl (by decide) (gO5 hF) dX6_swap_20 ?_
      refine r_if_eq (pc := 23) (tgt := 28) dX6_swap_23 (by decide) h (fun h => ?_) (fun h => ?_)
      · refine r_aload_n (pc := 28) dX6_swap_28 rfl rfl ?_
        obtain ⟨m20, q22, h⟩ := gCv_some h
        refine r_callV (kd := 5) (pc := 29) [] (tX6_remember _ _ _ hF  _ _ q22) ⟨rfl, rfl⟩ cd_X6_remember wX6_214 nm_X6_remember rfl (by rw [hRm]; decide) rfl (Nat.le_of_ble_eq_true rfl) rfl (by decide) (gO5 hF) dX6_swap_29 ?_
        refine r_aload_n (pc := 32) dX6_swap_32 rfl rfl ?_
        refine fX6_13 (pc := 33) hF dX6_swap_33 (fun b23 => ?_)
        refine r_iload_n (pc := 36) dX6_swap_36 rfl rfl ?_
        refine r_iload_n (pc := 37) dX6_swap_37 rfl rfl ?_
        obtain ⟨m24, x25, q26, h⟩ := gCl_some h
        refine r_callS (pc := 38) [.ref _, .int _, .int _] (tX6_swapOn _ _ _ hF _ _ _ _ _ _ q26 b23) ⟨rfl, rfl⟩ cd_X6_swapOn wX6_166 nm_X6_swapOn rfl (by rw [hRm]; decide) rfl (Nat.le_of_ble_eq_true rfl) dX6_swap_38 ?_
        exact r_iretH dX6_swap_41 h he
      · refine r_iconst (pc := 26) (v := 0) dX6_swap_26 (by decide) ?_
        exact r_iretH dX6_swap_27 h he
    · refine r_iconst (pc := 15) (v := 0) dX6_swap_15 (by decide) ?_
      refine r_goto (pc := 16) (tgt := 20) dX6_swap_16 (by decide) ?_
      obtain ⟨m27, x28, q29, h⟩ := gCl_some h
      refine r_callV (kd := 5) (pc := 20) [.int _] (tX6_refused _ _ _ hF _ _ _ q29) ⟨rfl, rfl⟩ cd_X6_refused wX6_108 nm_X6_refused rfl (by rw [hRm]; decide) rfl (Nat.le_of_ble_eq_true rfl) rfl (by decide) (gO5 hF) dX6_swap_20 ?_
      refine r_if_eq (pc := 23) (tgt := 28) dX6_swap_23 (by decide) h (fun h => ?_) (fun h => ?_)
      · refine r_aload_n (pc := 28) dX6_swap_28 rfl rfl ?_
        obtain ⟨m30, q32, h⟩ := gCv_some h
        refine r_callV (kd := 5) (pc := 29) [] (tX6_remember _ _ _ hF  _ _ q32) ⟨rfl, rfl⟩ cd_X6_remember wX6_214 nm_X6_remember rfl (by rw [hRm]; decide) rfl (Nat.le_of_ble_eq_true rfl) rfl (by decide) (gO5 hF) dX6_swap_29 ?_
        refine r_aload_n (pc := 32) dX6_swap_32 rfl rfl ?_
        refine fX6_13 (pc := 33) hF dX6_swap_33 (fun b33 => ?_)
        refine r_iload_n (pc := 36) dX6_swap_36 rfl rfl ?_
        refine r_iload_n (pc := 37) dX6_swap_37 rfl rfl ?_
        obtain ⟨m34, x35, q36, h⟩ := gCl_some h
        refine r_callS (pc := 38) [.ref _, .int _, .int _] (tX6_swapOn _ _ _ hF _ _ _ _ _ _ q36 b33) ⟨rfl, rfl⟩ cd_X6_swapOn wX6_166 nm_X6_swapOn rfl (by rw [hRm]; decide) rfl (Nat.le_of_ble_eq_true rfl) dX6_swap_38 ?_
        exact r_iretH dX6_swap_41 h he
      · refine r_iconst (pc := 26) (v := 0) dX6_swap_26 (by decide) ?_
        exact r_iretH dX6_swap_27 h he
def fX6_set (p1 : Int32) (p2 : Int32) (m : gM) : Option (gM × Int32) := gCl (fX6_isSetting p1 p2 m) fun m1 x2 => (if x2 = 0 then gCl (fX6_refused 1 m1) fun m4 x5 => (if x5 = 0 then gCv (fX6_remember m4) fun m7 => gCl (fX6_put 5824 258 (11 + p1) p2 m7) fun m11 x12 => some (m11, x12) else some (m4, 0)) else gCl (fX6_refused 0 m1) fun m14 x15 => (if x15 = 0 then gCv (fX6_remember m14) fun m17 => gCl (fX6_put 5824 258 (11 + p1) p2 m17) fun m21 x22 => some (m21, x22) else some (m14, 0)))
abbrev rmX6_set : Room := { frames := 2, cells := 0, slots := 0, locals := 46 }
set_option maxHeartbeats 4000000 in
set_option maxRecDepth 100000 in
theorem tX6_set (l : Launch) (G : gX) (u : gU) (hF : gFull u) (p1 : Int32) (p2 : Int32) (m : gM) (o : gM × Int32) (h : fX6_set p1 p2 m = some o)  : gMet l G u yX6_set (.code yX6_set cX6_set 3 (some .int)) rmX6_set [.ref 5693, .int p1, .int p2] m o.1 (some (.int o.2)) := by
  refine gMet_of (own := RX6) (k := 0) (by decide) rfl ⟨rfl, rfl⟩ (Nat.le_of_ble_eq_true rfl) [some (.ref 5693), some (.int p1), some (.int p2)] rfl (fun Y hG hu hnL hLn hRm he => ?_)
  subst hG hu hLn
  unfold fX6_set at h
  refine r_aload_n (pc := 0) dX6_set_0 rfl rfl ?_
  refine r_iload_n (pc := 1) dX6_set_1 rfl rfl ?_
  refine r_iload_n (pc := 2) dX6_set_2 rfl rfl ?_
  obtain ⟨m1, x2, q3, h⟩ := gCl_some h
  refine r_callS (pc := 3) [.int _, .int _] (tX6_isSetting _ _ _ hF _ _ _ _ q3) ⟨rfl, rfl⟩ cd_X6_isSetting wX6_169 nm_X6_isSetting rfl (by rw [hRm]; decide) rfl (Nat.le_of_ble_eq_true rfl) dX6_set_3 ?_
  refine r_if_eq (pc := 6) (tgt := 13) dX6_set_6 (by decide) h (fun h => ?_) (fun h => ?_)
  · refine r_iconst (pc := 13) (v := 1) dX6_set_13 (by decide) ?_
    obtain ⟨m4, x5, q6, h⟩ := gCl_some h
    refine r_callV (kd := 5) (pc := 14) [.int _] (tX6_refused _ _ _ hF _ _ _ q6) ⟨rfl, rfl⟩ cd_X6_refused wX6_108 nm_X6_refused rfl (by rw [hRm]; decide) rfl (Nat.le_of_ble_eq_true rfl) rfl (by decide) (gO5 hF) dX6_set_14 ?_
    refine r_if_eq (pc := 17) (tgt := 22) dX6_set_17 (by decide) h (fun h => ?_) (fun h => ?_)
    · refine r_aload_n (pc := 22) dX6_set_22 rfl rfl ?_
      obtain ⟨m7, q9, h⟩ := gCv_some h
      refine r_callV (kd := 5) (pc := 23) [] (tX6_remember _ _ _ hF  _ _ q9) ⟨rfl, rfl⟩ cd_X6_remember wX6_214 nm_X6_remember rfl (by rw [hRm]; decide) rfl (Nat.le_of_ble_eq_true rfl) rfl (by decide) (gO5 hF) dX6_set_23 ?_
      refine r_aload_n (pc := 26) dX6_set_26 rfl rfl ?_
      refine fX6_13 (pc := 27) hF dX6_set_27 (fun b10 => ?_)
      refine r_bipush (pc := 30) (v := 11) dX6_set_30 (by decide) ?_
      refine r_iload_n (pc := 32) dX6_set_32 rfl rfl ?_
      refine r_iadd (pc := 33) dX6_set_33 ?_
      refine r_iload_n (pc := 34) dX6_set_34 rfl rfl ?_
      obtain ⟨m11, x12, q13, h⟩ := gCl_some h
      refine r_callS (pc := 35) [.ref _, .int _, .int _] (tX6_put _ _ _ hF _ _ _ _ _ _ q13 b10) ⟨rfl, rfl⟩ cd_X6_put wX6_95 nm_X6_put rfl (by rw [hRm]; decide) rfl (Nat.le_of_ble_eq_true rfl) dX6_set_35 ?_
      exact r_iretH dX6_set_38 h he
    · refine r_iconst (pc := 20) (v := 0) dX6_set_20 (by decide) ?_
      exact r_iretH dX6_set_21 h he
  · refine r_iconst (pc := 9) (v := 0) dX6_set_9 (by decide) ?_
    refine r_goto (pc := 10) (tgt := 14) dX6_set_10 (by decide) ?_
    obtain ⟨m14, x15, q16, h⟩ := gCl_some h
    refine r_callV (kd := 5) (pc := 14) [.int _] (tX6_refused _ _ _ hF _ _ _ q16) ⟨rfl, rfl⟩ cd_X6_refused wX6_108 nm_X6_refused rfl (by rw [hRm]; decide) rfl (Nat.le_of_ble_eq_true rfl) rfl (by decide) (gO5 hF) dX6_set_14 ?_
    refine r_if_eq (pc := 17) (tgt := 22) dX6_set_17 (by decide) h (fun h => ?_) (fun h => ?_)
    · refine r_aload_n (pc := 22) dX6_set_22 rfl rfl ?_
      obtain ⟨m17, q19, h⟩ := gCv_some h
      refine r_callV (kd := 5) (pc := 23) [] (tX6_remember _ _ _ hF  _ _ q19) ⟨rfl, rfl⟩ cd_X6_remember wX6_214 nm_X6_remember rfl (by rw [hRm]; decide) rfl (Nat.le_of_ble_eq_true rfl) rfl (by decide) (gO5 hF) dX6_set_23 ?_
      refine r_aload_n (pc := 26) dX6_set_26 rfl rfl ?_
      refine fX6_13 (pc := 27) hF dX6_set_27 (fun b20 => ?_)
      refine r_bipush (pc := 30) (v := 11) dX6_set_30 (by decide) ?_
      refine r_iload_n (pc := 32) dX6_set_32 rfl rfl ?_
      refine r_iadd (pc := 33) dX6_set_33 ?_
      refine r_iload_n (pc := 34) dX6_set_34 rfl rfl ?_
      obtain ⟨m21, x22, q23, h⟩ := gCl_some h
      refine r_callS (pc := 35) [.ref _, .int _, .int _] (tX6_put _ _ _ hF _ _ _ _ _ _ q23 b20) ⟨rfl, rfl⟩ cd_X6_put wX6_95 nm_X6_put rfl (by rw [hRm]; decide) rfl (Nat.le_of_ble_eq_true rfl) dX6_set_35 ?_
      exact r_iretH dX6_set_38 h he
    · refine r_iconst (pc := 20) (v := 0) dX6_set_20 (by decide) ?_
      exact r_iretH dX6_set_21 h he
def fX6_days (p1 : Int32) (m : gM) : Option (gM × Int32) := gCl (fX6_in (p1.toInt64) 1 60 m) fun m1 x2 => (if x2 = 0 then gCl (fX6_refused 1 m1) fun m4 x5 => (if x5 = 0 then gCv (fX6_remember m4) fun m7 => gCl (fX6_daysOn 5824 258 p1 m7) fun m11 x12 => some (m11, x12) else some (m4, 0)) else gCl (fX6_refused 0 m1) fun m14 x15 => (if x15 = 0 then gCv (fX6_remember m14) fun m17 => gCl (fX6_daysOn 5824 258 p1 m17) fun m21 x22 => some (m21, x22) else some (m14, 0)))
abbrev rmX6_days : Room := { frames := 7, cells := 0, slots := 0, locals := 162 }
set_option maxHeartbeats 4000000 in
set_option maxRecDepth 100000 in
theorem tX6_days (l : Launch) (G : gX) (u : gU) (hF : gFull u) (p1 : Int32) (m : gM) (o : gM × Int32) (h : fX6_days p1 m = some o)  : gMet l G u yX6_days (.code yX6_days cX6_days 2 (some .int)) rmX6_days [.ref 5693, .int p1] m o.1 (some (.int o.2)) := by
  refine gMet_of (own := RX6) (k := 0) (by decide) rfl ⟨rfl, rfl⟩ (Nat.le_of_ble_eq_true rfl) [some (.ref 5693), some (.int p1)] rfl (fun Y hG hu hnL hLn hRm he => ?_)
  subst hG hu hLn
  unfold fX6_days at h
  refine r_aload_n (pc := 0) dX6_days_0 rfl rfl ?_
  refine r_iload_n (pc := 1) dX6_days_1 rfl rfl ?_
  refine r_i2l (pc := 2) dX6_days_2 ?_
  refine r_lconst (pc := 3) (v := 1) dX6_days_3 (by decide) ?_
  refine r_ldc2 (pc := 4) (v := 60) dX6_days_4 cX6_223 ?_
  obtain ⟨m1, x2, q3, h⟩ := gCl_some h
  refine r_callS (pc := 7) [.long _, .long _, .long _] (tX6_in _ _ _ hF _ _ _ _ _ q3) ⟨rfl, rfl⟩ cd_X6_in wX6_37 nm_X6_in rfl (by rw [hRm]; decide) rfl (Nat.le_of_ble_eq_true rfl) dX6_days_7 ?_
  refine r_if_eq (pc := 10) (tgt := 17) dX6_days_10 (by decide) h (fun h => ?_) (fun h => ?_)
  · refine r_iconst (pc := 17) (v := 1) dX6_days_17 (by decide) ?_
    obtain ⟨m4, x5, q6, h⟩ := gCl_some h
    refine r_callV (kd := 5) (pc := 18) [.int _] (tX6_refused _ _ _ hF _ _ _ q6) ⟨rfl, rfl⟩ cd_X6_refused wX6_108 nm_X6_refused rfl (by rw [hRm]; decide) rfl (Nat.le_of_ble_eq_true rfl) rfl (by decide) (gO5 hF) dX6_days_18 ?_
    refine r_if_eq (pc := 21) (tgt := 26) dX6_days_21 (by decide) h (fun h => ?_) (fun h => ?_)
    · refine r_aload_n (pc := 26) dX6_days_26 rfl rfl ?_
      obtain ⟨m7, q9, h⟩ := gCv_some h
      refine r_callV (kd := 5) (pc := 27) [] (tX6_remember _ _ _ hF  _ _ q9) ⟨rfl, rfl⟩ cd_X6_remember wX6_214 nm_X6_remember rfl (by rw [hRm]; decide) rfl (Nat.le_of_ble_eq_true rfl) rfl (by decide) (gO5 hF) dX6_days_27 ?_
      refine r_aload_n (pc := 30) dX6_days_30 rfl rfl ?_
      refine fX6_13 (pc := 31) hF dX6_days_31 (fun b10 => ?_)
      refine r_iload_n (pc := 34) dX6_days_34 rfl rfl ?_
      obtain ⟨m11, x12, q13, h⟩ := gCl_some h
      refine r_callS (pc := 35) [.ref _, .int _] (tX6_daysOn _ _ _ hF _ _ _ _ _ q13 b10) ⟨rfl, rfl⟩ cd_X6_daysOn wX6_173 nm_X6_daysOn rfl (by rw [hRm]; decide) rfl (Nat.le_of_ble_eq_true rfl) dX6_days_35 ?_
      exact r_iretH dX6_days_38 h he
    · refine r_iconst (pc := 24) (v := 0) dX6_days_24 (by decide) ?_
      exact r_iretH dX6_days_25 h he
  · refine r_iconst (pc := 13) (v := 0) dX6_days_13 (by decide) ?_
    refine r_goto (pc := 14) (tgt := 18) dX6_days_14 (by decide) ?_
    obtain ⟨m14, x15, q16, h⟩ := gCl_some h
    refine r_callV (kd := 5) (pc := 18) [.int _] (tX6_refused _ _ _ hF _ _ _ q16) ⟨rfl, rfl⟩ cd_X6_refused wX6_108 nm_X6_refused rfl (by rw [hRm]; decide) rfl (Nat.le_of_ble_eq_true rfl) rfl (by decide) (gO5 hF) dX6_days_18 ?_
    refine r_if_eq (pc := 21) (tgt := 26) dX6_days_21 (by decide) h (fun h => ?_) (fun h => ?_)
    · refine r_aload_n (pc := 26) dX6_days_26 rfl rfl ?_
      obtain ⟨m17, q19, h⟩ := gCv_some h
      refine r_callV (kd := 5) (pc := 27) [] (tX6_remember _ _ _ hF  _ _ q19) ⟨rfl, rfl⟩ cd_X6_remember wX6_214 nm_X6_remember rfl (by rw [hRm]; decide) rfl (Nat.le_of_ble_eq_true rfl) rfl (by decide) (gO5 hF) dX6_days_27 ?_
      refine r_aload_n (pc := 30) dX6_days_30 rfl rfl ?_
      refine fX6_13 (pc := 31) hF dX6_days_31 (fun b20 => ?_)
      refine r_iload_n (pc := 34) dX6_days_34 rfl rfl ?_
      obtain ⟨m21, x22, q23, h⟩ := gCl_some h
      refine r_callS (pc := 35) [.ref _, .int _] (tX6_daysOn _ _ _ hF _ _ _ _ _ q23 b20) ⟨rfl, rfl⟩ cd_X6_daysOn wX6_173 nm_X6_daysOn rfl (by rw [hRm]; decide) rfl (Nat.le_of_ble_eq_true rfl) dX6_days_35 ?_
      exact r_iretH dX6_days_38 h he
    · refine r_iconst (pc := 24) (v := 0) dX6_days_24 (by decide) ?_
      exact r_iretH dX6_days_25 h he
def fX6_undo  (m : gM) : Option (gM × Int32) := gLt (m (5693 + 6)) fun x1 => (if x1 = 0 then gCl (fX6_refused 1 m) fun m14 x15 => (if x15 = 0 then gLt (m14 (5693 + 6)) fun x17 => gLt (upd m14 (5693 + 6) (x17 - 1)) fun m18 => gLt (m18 (5693 + 6)) fun x20 => gCv (fX6_copyState 6340 3612 (258 * x20) 5824 258 0 m18) fun m22 => gLt (m22 (5693 + 6)) fun x25 => some (m22, x25) else some (m14, 0)) else gCl (fX6_refused 0 m) fun m2 x3 => (if x3 = 0 then gLt (m2 (5693 + 6)) fun x5 => gLt (upd m2 (5693 + 6) (x5 - 1)) fun m6 => gLt (m6 (5693 + 6)) fun x8 => gCv (fX6_copyState 6340 3612 (258 * x8) 5824 258 0 m6) fun m10 => gLt (m10 (5693 + 6)) fun x13 => some (m10, x13) else some (m2, 0)))
abbrev rmX6_undo : Room := { frames := 1, cells := 0, slots := 0, locals := 24 }
set_option maxHeartbeats 4000000 in
set_option maxRecDepth 100000 in
theorem tX6_undo (l : Launch) (G : gX) (u : gU) (hF : gFull u)  (m : gM) (o : gM × Int32) (h : fX6_undo  m = some o)  : gMet l G u yX6_undo (.code yX6_undo cX6_undo 1 (some .int)) rmX6_undo [.ref 5693] m o.1 (some (.int o.2)) := by
  refine gMet_of (own := RX6) (k := 0) (by decide) rfl ⟨rfl, rfl⟩ (Nat.le_of_ble_eq_true rfl) [some (.ref 5693)] rfl (fun Y hG hu hnL hLn hRm he => ?_)
  subst hG hu hLn
  unfold fX6_undo at h
  refine r_aload_n (pc := 0) dX6_undo_0 rfl rfl ?_
  refine r_aload_n (pc := 1) dX6_undo_1 rfl rfl ?_
  refine fX6_187 (pc := 2) dX6_undo_2 (gO5 hF) h (fun x1 h => ?_)
  refine r_if_ne (pc := 5) (tgt := 12) dX6_undo_5 (by decide) h (fun h => ?_) (fun h => ?_)
  · refine r_iconst (pc := 12) (v := 0) dX6_undo_12 (by decide) ?_
    obtain ⟨m2, x3, q4, h⟩ := gCl_some h
    refine r_callV (kd := 5) (pc := 13) [.int _] (tX6_refused _ _ _ hF _ _ _ q4) ⟨rfl, rfl⟩ cd_X6_refused wX6_108 nm_X6_refused rfl (by rw [hRm]; decide) rfl (Nat.le_of_ble_eq_true rfl) rfl (by decide) (gO5 hF) dX6_undo_13 ?_
    refine r_if_eq (pc := 16) (tgt := 21) dX6_undo_16 (by decide) h (fun h => ?_) (fun h => ?_)
    · refine r_aload_n (pc := 21) dX6_undo_21 rfl rfl ?_
      refine r_dup (pc := 22) dX6_undo_22 rfl ?_
      refine fX6_187 (pc := 23) dX6_undo_23 (gO5 hF) h (fun x5 h => ?_)
      refine r_iconst (pc := 26) (v := 1) dX6_undo_26 (by decide) ?_
      refine r_isub (pc := 27) dX6_undo_27 ?_
      refine fX6_187p (pc := 28) dX6_undo_28 (gO5 hF) h (fun m6 h => ?_)
      refine r_aload_n (pc := 31) dX6_undo_31 rfl rfl ?_
      refine fX6_19 (pc := 32) hF dX6_undo_32 (fun b7 => ?_)
      refine r_sipush (pc := 35) (v := 258) dX6_undo_35 (by decide) ?_
      refine r_aload_n (pc := 38) dX6_undo_38 rfl rfl ?_
      refine fX6_187 (pc := 39) dX6_undo_39 (gO5 hF) h (fun x8 h => ?_)
      refine r_imul (pc := 42) dX6_undo_42 ?_
      refine r_aload_n (pc := 43) dX6_undo_43 rfl rfl ?_
      refine fX6_13 (pc := 44) hF dX6_undo_44 (fun b9 => ?_)
      refine r_iconst (pc := 47) (v := 0) dX6_undo_47 (by decide) ?_
      obtain ⟨m10, q12, h⟩ := gCv_some h
      refine r_callS (pc := 48) [.ref _, .int _, .ref _, .int _] (tX6_copyState _ _ _ hF _ _ _ _ _ _ _ _ q12 b7 b9) ⟨rfl, rfl⟩ cd_X6_copyState wX6_183 nm_X6_copyState rfl (by rw [hRm]; decide) rfl (Nat.le_of_ble_eq_true rfl) dX6_undo_48 ?_
      refine r_aload_n (pc := 51) dX6_undo_51 rfl rfl ?_
      refine fX6_187 (pc := 52) dX6_undo_52 (gO5 hF) h (fun x13 h => ?_)
      exact r_iretH dX6_undo_55 h he
    · refine r_iconst (pc := 19) (v := 0) dX6_undo_19 (by decide) ?_
      exact r_iretH dX6_undo_20 h he
  · refine r_iconst (pc := 8) (v := 1) dX6_undo_8 (by decide) ?_
    refine r_goto (pc := 9) (tgt := 13) dX6_undo_9 (by decide) ?_
    obtain ⟨m14, x15, q16, h⟩ := gCl_some h
    refine r_callV (kd := 5) (pc := 13) [.int _] (tX6_refused _ _ _ hF _ _ _ q16) ⟨rfl, rfl⟩ cd_X6_refused wX6_108 nm_X6_refused rfl (by rw [hRm]; decide) rfl (Nat.le_of_ble_eq_true rfl) rfl (by decide) (gO5 hF) dX6_undo_13 ?_
    refine r_if_eq (pc := 16) (tgt := 21) dX6_undo_16 (by decide) h (fun h => ?_) (fun h => ?_)
    · refine r_aload_n (pc := 21) dX6_undo_21 rfl rfl ?_
      refine r_dup (pc := 22) dX6_undo_22 rfl ?_
      refine fX6_187 (pc := 23) dX6_undo_23 (gO5 hF) h (fun x17 h => ?_)
      refine r_iconst (pc := 26) (v := 1) dX6_undo_26 (by decide) ?_
      refine r_isub (pc := 27) dX6_undo_27 ?_
      refine fX6_187p (pc := 28) dX6_undo_28 (gO5 hF) h (fun m18 h => ?_)
      refine r_aload_n (pc := 31) dX6_undo_31 rfl rfl ?_
      refine fX6_19 (pc := 32) hF dX6_undo_32 (fun b19 => ?_)
      refine r_sipush (pc := 35) (v := 258) dX6_undo_35 (by decide) ?_
      refine r_aload_n (pc := 38) dX6_undo_38 rfl rfl ?_
      refine fX6_187 (pc := 39) dX6_undo_39 (gO5 hF) h (fun x20 h => ?_)
      refine r_imul (pc := 42) dX6_undo_42 ?_
      refine r_aload_n (pc := 43) dX6_undo_43 rfl rfl ?_
      refine fX6_13 (pc := 44) hF dX6_undo_44 (fun b21 => ?_)
      refine r_iconst (pc := 47) (v := 0) dX6_undo_47 (by decide) ?_
      obtain ⟨m22, q24, h⟩ := gCv_some h
      refine r_callS (pc := 48) [.ref _, .int _, .ref _, .int _] (tX6_copyState _ _ _ hF _ _ _ _ _ _ _ _ q24 b19 b21) ⟨rfl, rfl⟩ cd_X6_copyState wX6_183 nm_X6_copyState rfl (by rw [hRm]; decide) rfl (Nat.le_of_ble_eq_true rfl) dX6_undo_48 ?_
      refine r_aload_n (pc := 51) dX6_undo_51 rfl rfl ?_
      refine fX6_187 (pc := 52) dX6_undo_52 (gO5 hF) h (fun x25 h => ?_)
      exact r_iretH dX6_undo_55 h he
    · refine r_iconst (pc := 19) (v := 0) dX6_undo_19 (by decide) ?_
      exact r_iretH dX6_undo_20 h he
def fX6_why (p1 : Int32) (m : gM) : Option (gM × Int32) := gCl (fX6_isCustomer 5824 258 p1 m) fun m2 x3 => (if x3 = 0 then gCl (fX6_refused 1 m2) fun m5 x6 => (if x6 = 0 then gCl (fX6_reason 5824 258 p1 m5) fun m9 x10 => some (m9, x10) else some (m5, 0)) else gCl (fX6_refused 0 m2) fun m12 x13 => (if x13 = 0 then gCl (fX6_reason 5824 258 p1 m12) fun m16 x17 => some (m16, x17) else some (m12, 0)))
abbrev rmX6_why : Room := { frames := 6, cells := 0, slots := 0, locals := 142 }
set_option maxHeartbeats 4000000 in
set_option maxRecDepth 100000 in
theorem tX6_why (l : Launch) (G : gX) (u : gU) (hF : gFull u) (p1 : Int32) (m : gM) (o : gM × Int32) (h : fX6_why p1 m = some o)  : gMet l G u yX6_why (.code yX6_why cX6_why 2 (some .int)) rmX6_why [.ref 5693, .int p1] m o.1 (some (.int o.2)) := by
  refine gMet_of (own := RX6) (k := 0) (by decide) rfl ⟨rfl, rfl⟩ (Nat.le_of_ble_eq_true rfl) [some (.ref 5693), some (.int p1)] rfl (fun Y hG hu hnL hLn hRm he => ?_)
  subst hG hu hLn
  unfold fX6_why at h
  refine r_aload_n (pc := 0) dX6_why_0 rfl rfl ?_
  refine r_aload_n (pc := 1) dX6_why_1 rfl rfl ?_
  refine fX6_13 (pc := 2) hF dX6_why_2 (fun b1 => ?_)
  refine r_iload_n (pc := 5) dX6_why_5 rfl rfl ?_
  obtain ⟨m2, x3, q4, h⟩ := gCl_some h
  refine r_callS (pc := 6) [.ref _, .int _] (tX6_isCustomer _ _ _ hF _ _ _ _ _ q4 b1) ⟨rfl, rfl⟩ cd_X6_isCustomer wX6_139 nm_X6_isCustomer rfl (by rw [hRm]; decide) rfl (Nat.le_of_ble_eq_true rfl) dX6_why_6 ?_
  refine r_if_eq (pc := 9) (tgt := 16) dX6_why_9 (by decide) h (fun h => ?_) (fun h => ?_)
  · refine r_iconst (pc := 16) (v := 1) dX6_why_16 (by decide) ?_
    obtain ⟨m5, x6, q7, h⟩ := gCl_some h
    refine r_callV (kd := 5) (pc := 17) [.int _] (tX6_refused _ _ _ hF _ _ _ q7) ⟨rfl, rfl⟩ cd_X6_refused wX6_108 nm_X6_refused rfl (by rw [hRm]; decide) rfl (Nat.le_of_ble_eq_true rfl) rfl (by decide) (gO5 hF) dX6_why_17 ?_
    refine r_if_eq (pc := 20) (tgt := 25) dX6_why_20 (by decide) h (fun h => ?_) (fun h => ?_)
    · refine r_aload_n (pc := 25) dX6_why_25 rfl rfl ?_
      refine fX6_13 (pc := 26) hF dX6_why_26 (fun b8 => ?_)
      refine r_iload_n (pc := 29) dX6_why_29 rfl rfl ?_
      obtain ⟨m9, x10, q11, h⟩ := gCl_some h
      refine r_callS (pc := 30) [.ref _, .int _] (tX6_reason _ _ _ hF _ _ _ _ _ q11 b8) ⟨rfl, rfl⟩ cd_X6_reason wX6_225 nm_X6_reason rfl (by rw [hRm]; decide) rfl (Nat.le_of_ble_eq_true rfl) dX6_why_30 ?_
      exact r_iretH dX6_why_33 h he
    · refine r_iconst (pc := 23) (v := 0) dX6_why_23 (by decide) ?_
      exact r_iretH dX6_why_24 h he
  · refine r_iconst (pc := 12) (v := 0) dX6_why_12 (by decide) ?_
    refine r_goto (pc := 13) (tgt := 17) dX6_why_13 (by decide) ?_
    obtain ⟨m12, x13, q14, h⟩ := gCl_some h
    refine r_callV (kd := 5) (pc := 17) [.int _] (tX6_refused _ _ _ hF _ _ _ q14) ⟨rfl, rfl⟩ cd_X6_refused wX6_108 nm_X6_refused rfl (by rw [hRm]; decide) rfl (Nat.le_of_ble_eq_true rfl) rfl (by decide) (gO5 hF) dX6_why_17 ?_
    refine r_if_eq (pc := 20) (tgt := 25) dX6_why_20 (by decide) h (fun h => ?_) (fun h => ?_)
    · refine r_aload_n (pc := 25) dX6_why_25 rfl rfl ?_
      refine fX6_13 (pc := 26) hF dX6_why_26 (fun b15 => ?_)
      refine r_iload_n (pc := 29) dX6_why_29 rfl rfl ?_
      obtain ⟨m16, x17, q18, h⟩ := gCl_some h
      refine r_callS (pc := 30) [.ref _, .int _] (tX6_reason _ _ _ hF _ _ _ _ _ q18 b15) ⟨rfl, rfl⟩ cd_X6_reason wX6_225 nm_X6_reason rfl (by rw [hRm]; decide) rfl (Nat.le_of_ble_eq_true rfl) dX6_why_30 ?_
      exact r_iretH dX6_why_33 h he
    · refine r_iconst (pc := 23) (v := 0) dX6_why_23 (by decide) ?_
      exact r_iretH dX6_why_24 h he
def fX6_creditIn (p1 : Int32) (p2 : Int32) (m : gM) : Option (gM × Int32) := gCl (fX6_isCustomer 5824 258 p1 m) fun m2 x3 => (if x3 = 0 then gCl (fX6_refused 1 m2) fun m40 x41 => (if x41 = 0 then gCv (fX6_copyState 5824 258 0 6082 258 0 m40) fun m45 => gCl (fX6_daysOn 6082 258 p2 m45) fun m49 x50 => gCl (fX6_of 6082 258 p1 8 m49) fun m53 x54 => some (m53, x54) else some (m40, 0)) else gCl (fX6_in (p2.toInt64) 0 200 m2) fun m5 x6 => (if x6 = 0 then gCl (fX6_refused 2 m5) fun m8 x9 => (if x9 = 0 then gCv (fX6_copyState 5824 258 0 6082 258 0 m8) fun m13 => gCl (fX6_daysOn 6082 258 p2 m13) fun m17 x18 => gCl (fX6_of 6082 258 p1 8 m17) fun m21 x22 => some (m21, x22) else some (m8, 0)) else gCl (fX6_refused 0 m5) fun m24 x25 => (if x25 = 0 then gCv (fX6_copyState 5824 258 0 6082 258 0 m24) fun m29 => gCl (fX6_daysOn 6082 258 p2 m29) fun m33 x34 => gCl (fX6_of 6082 258 p1 8 m33) fun m37 x38 => some (m37, x38) else some (m24, 0))))
abbrev rmX6_creditIn : Room := { frames := 7, cells := 0, slots := 0, locals := 162 }
set_option maxHeartbeats 4000000 in
set_option maxRecDepth 100000 in
theorem tX6_creditIn (l : Launch) (G : gX) (u : gU) (hF : gFull u) (p1 : Int32) (p2 : Int32) (m : gM) (o : gM × Int32) (h : fX6_creditIn p1 p2 m = some o)  : gMet l G u yX6_creditIn (.code yX6_creditIn cX6_creditIn 3 (some .int)) rmX6_creditIn [.ref 5693, .int p1, .int p2] m o.1 (some (.int o.2)) := by
  refine gMet_of (own := RX6) (k := 0) (by decide) rfl ⟨rfl, rfl⟩ (Nat.le_of_ble_eq_true rfl) [some (.ref 5693), some (.int p1), some (.int p2)] rfl (fun Y hG hu hnL hLn hRm he => ?_)
  subst hG hu hLn
  unfold fX6_creditIn at h
  refine r_aload_n (pc := 0) dX6_creditIn_0 rfl rfl ?_
  refine r_aload_n (pc := 1) dX6_creditIn_1 rfl rfl ?_
  refine fX6_13 (pc := 2) hF dX6_creditIn_2 (fun b1 => ?_)
  refine r_iload_n (pc := 5) dX6_creditIn_5 rfl rfl ?_
  obtain ⟨m2, x3, q4, h⟩ := gCl_some h
  refine r_callS (pc := 6) [.ref _, .int _] (tX6_isCustomer _ _ _ hF _ _ _ _ _ q4 b1) ⟨rfl, rfl⟩ cd_X6_isCustomer wX6_139 nm_X6_isCustomer rfl (by rw [hRm]; decide) rfl (Nat.le_of_ble_eq_true rfl) dX6_creditIn_6 ?_
  refine r_if_ne (pc := 9) (tgt := 16) dX6_creditIn_9 (by decide) h (fun h => ?_) (fun h => ?_)
  · refine r_iload_n (pc := 16) dX6_creditIn_16 rfl rfl ?_
    refine r_i2l (pc := 17) dX6_creditIn_17 ?_
    refine r_lconst (pc := 18) (v := 0) dX6_creditIn_18 (by decide) ?_
    refine r_ldc2 (pc := 19) (v := 200) dX6_creditIn_19 cX6_228 ?_
    obtain ⟨m5, x6, q7, h⟩ := gCl_some h
    refine r_callS (pc := 22) [.long _, .long _, .long _] (tX6_in _ _ _ hF _ _ _ _ _ q7) ⟨rfl, rfl⟩ cd_X6_in wX6_37 nm_X6_in rfl (by rw [hRm]; decide) rfl (Nat.le_of_ble_eq_true rfl) dX6_creditIn_22 ?_
    refine r_if_eq (pc := 25) (tgt := 32) dX6_creditIn_25 (by decide) h (fun h => ?_) (fun h => ?_)
    · refine r_iconst (pc := 32) (v := 2) dX6_creditIn_32 (by decide) ?_
      obtain ⟨m8, x9, q10, h⟩ := gCl_some h
      refine r_callV (kd := 5) (pc := 33) [.int _] (tX6_refused _ _ _ hF _ _ _ q10) ⟨rfl, rfl⟩ cd_X6_refused wX6_108 nm_X6_refused rfl (by rw [hRm]; decide) rfl (Nat.le_of_ble_eq_true rfl) rfl (by decide) (gO5 hF) dX6_creditIn_33 ?_
      refine r_if_eq (pc := 36) (tgt := 41) dX6_creditIn_36 (by decide) h (fun h => ?_) (fun h => ?_)
      · refine r_aload_n (pc := 41) dX6_creditIn_41 rfl rfl ?_
        refine fX6_13 (pc := 42) hF dX6_creditIn_42 (fun b11 => ?_)
        refine r_iconst (pc := 45) (v := 0) dX6_creditIn_45 (by decide) ?_
        refine r_aload_n (pc := 46) dX6_creditIn_46 rfl rfl ?_
        refine fX6_16 (pc := 47) hF dX6_creditIn_47 (fun b12 => ?_)
        refine r_iconst (pc := 50) (v := 0) dX6_creditIn_50 (by decide) ?_
        obtain ⟨m13, q15, h⟩ := gCv_some h
        refine r_callS (pc := 51) [.ref _, .int _, .ref _, .int _] (tX6_copyState _ _ _ hF _ _ _ _ _ _ _ _ q15 b11 b12) ⟨rfl, rfl⟩ cd_X6_copyState wX6_183 nm_X6_copyState rfl (by rw [hRm]; decide) rfl (Nat.le_of_ble_eq_true rfl) dX6_creditIn_51 ?_
        refine r_aload_n (pc := 54) dX6_creditIn_54 rfl rfl ?_
        refine fX6_16 (pc := 55) hF dX6_creditIn_55 (fun b16 => ?_)
        refine r_iload_n (pc := 58) dX6_creditIn_58 rfl rfl ?_
        obtain ⟨m17, x18, q19, h⟩ := gCl_some h
        refine r_callS (pc := 59) [.ref _, .int _] (tX6_daysOn _ _ _ hF _ _ _ _ _ q19 b16) ⟨rfl, rfl⟩ cd_X6_daysOn wX6_173 nm_X6_daysOn rfl (by rw [hRm]; decide) rfl (Nat.le_of_ble_eq_true rfl) dX6_creditIn_59 ?_
        refine r_pop (pc := 62) dX6_creditIn_62 rfl ?_
        refine r_aload_n (pc := 63) dX6_creditIn_63 rfl rfl ?_
        refine fX6_16 (pc := 64) hF dX6_creditIn_64 (fun b20 => ?_)
        refine r_iload_n (pc := 67) dX6_creditIn_67 rfl rfl ?_
        refine r_bipush (pc := 68) (v := 8) dX6_creditIn_68 (by decide) ?_
        obtain ⟨m21, x22, q23, h⟩ := gCl_some h
        refine r_callS (pc := 70) [.ref _, .int _, .int _] (tX6_of _ _ _ hF _ _ _ _ _ _ q23 b20) ⟨rfl, rfl⟩ cd_X6_of wX6_53 nm_X6_of rfl (by rw [hRm]; decide) rfl (Nat.le_of_ble_eq_true rfl) dX6_creditIn_70 ?_
        exact r_iretH dX6_creditIn_73 h he
      · refine r_iconst (pc := 39) (v := 0) dX6_creditIn_39 (by decide) ?_
        exact r_iretH dX6_creditIn_40 h he
    · refine r_iconst (pc := 28) (v := 0) dX6_creditIn_28 (by decide) ?_
      refine r_goto (pc := 29) (tgt := 33) dX6_creditIn_29 (by decide) ?_
      obtain ⟨m24, x25, q26, h⟩ := gCl_some h
      refine r_callV (kd := 5) (pc := 33) [.int _] (tX6_refused _ _ _ hF _ _ _ q26) ⟨rfl, rfl⟩ cd_X6_refused wX6_108 nm_X6_refused rfl (by rw [hRm]; decide) rfl (Nat.le_of_ble_eq_true rfl) rfl (by decide) (gO5 hF) dX6_creditIn_33 ?_
      refine r_if_eq (pc := 36) (tgt := 41) dX6_creditIn_36 (by decide) h (fun h => ?_) (fun h => ?_)
      · refine r_aload_n (pc := 41) dX6_creditIn_41 rfl rfl ?_
        refine fX6_13 (pc := 42) hF dX6_creditIn_42 (fun b27 => ?_)
        refine r_iconst (pc := 45) (v := 0) dX6_creditIn_45 (by decide) ?_
        refine r_aload_n (pc := 46) dX6_creditIn_46 rfl rfl ?_
        refine fX6_16 (pc := 47) hF dX6_creditIn_47 (fun b28 => ?_)
        refine r_iconst (pc := 50) (v := 0) dX6_creditIn_50 (by decide) ?_
        obtain ⟨m29, q31, h⟩ := gCv_some h
        refine r_callS (pc := 51) [.ref _, .int _, .ref _, .int _] (tX6_copyState _ _ _ hF _ _ _ _ _ _ _ _ q31 b27 b28) ⟨rfl, rfl⟩ cd_X6_copyState wX6_183 nm_X6_copyState rfl (by rw [hRm]; decide) rfl (Nat.le_of_ble_eq_true rfl) dX6_creditIn_51 ?_
        refine r_aload_n (pc := 54) dX6_creditIn_54 rfl rfl ?_
        refine fX6_16 (pc := 55) hF dX6_creditIn_55 (fun b32 => ?_)
        refine r_iload_n (pc := 58) dX6_creditIn_58 rfl rfl ?_
        obtain ⟨m33, x34, q35, h⟩ := gCl_some h
        refine r_callS (pc := 59) [.ref _, .int _] (tX6_daysOn _ _ _ hF _ _ _ _ _ q35 b32) ⟨rfl, rfl⟩ cd_X6_daysOn wX6_173 nm_X6_daysOn rfl (by rw [hRm]; decide) rfl (Nat.le_of_ble_eq_true rfl) dX6_creditIn_59 ?_
        refine r_pop (pc := 62) dX6_creditIn_62 rfl ?_
        refine r_aload_n (pc := 63) dX6_creditIn_63 rfl rfl ?_
        refine fX6_16 (pc := 64) hF dX6_creditIn_64 (fun b36 => ?_)
        refine r_iload_n (pc := 67) dX6_creditIn_67 rfl rfl ?_
        refine r_bipush (pc := 68) (v := 8) dX6_creditIn_68 (by decide) ?_
        obtain ⟨m37, x38, q39, h⟩ := gCl_some h
        refine r_callS (pc := 70) [.ref _, .int _, .int _] (tX6_of _ _ _ hF _ _ _ _ _ _ q39 b36) ⟨rfl, rfl⟩ cd_X6_of wX6_53 nm_X6_of rfl (by rw [hRm]; decide) rfl (Nat.le_of_ble_eq_true rfl) dX6_creditIn_70 ?_
        exact r_iretH dX6_creditIn_73 h he
      · refine r_iconst (pc := 39) (v := 0) dX6_creditIn_39 (by decide) ?_
        exact r_iretH dX6_creditIn_40 h he
  · refine r_iconst (pc := 12) (v := 1) dX6_creditIn_12 (by decide) ?_
    refine r_goto (pc := 13) (tgt := 33) dX6_creditIn_13 (by decide) ?_
    obtain ⟨m40, x41, q42, h⟩ := gCl_some h
    refine r_callV (kd := 5) (pc := 33) [.int _] (tX6_refused _ _ _ hF _ _ _ q42) ⟨rfl, rfl⟩ cd_X6_refused wX6_108 nm_X6_refused rfl (by rw [hRm]; decide) rfl (Nat.le_of_ble_eq_true rfl) rfl (by decide) (gO5 hF) dX6_creditIn_33 ?_
    refine r_if_eq (pc := 36) (tgt := 41) dX6_creditIn_36 (by decide) h (fun h => ?_) (fun h => ?_)
    · refine r_aload_n (pc := 41) dX6_creditIn_41 rfl rfl ?_
      refine fX6_13 (pc := 42) hF dX6_creditIn_42 (fun b43 => ?_)
      refine r_iconst (pc := 45) (v := 0) dX6_creditIn_45 (by decide) ?_
      refine r_aload_n (pc := 46) dX6_creditIn_46 rfl rfl ?_
      refine fX6_16 (pc := 47) hF dX6_creditIn_47 (fun b44 => ?_)
      refine r_iconst (pc := 50) (v := 0) dX6_creditIn_50 (by decide) ?_
      obtain ⟨m45, q47, h⟩ := gCv_some h
      refine r_callS (pc := 51) [.ref _, .int _, .ref _, .int _] (tX6_copyState _ _ _ hF _ _ _ _ _ _ _ _ q47 b43 b44) ⟨rfl, rfl⟩ cd_X6_copyState wX6_183 nm_X6_copyState rfl (by rw [hRm]; decide) rfl (Nat.le_of_ble_eq_true rfl) dX6_creditIn_51 ?_
      refine r_aload_n (pc := 54) dX6_creditIn_54 rfl rfl ?_
      refine fX6_16 (pc := 55) hF dX6_creditIn_55 (fun b48 => ?_)
      refine r_iload_n (pc := 58) dX6_creditIn_58 rfl rfl ?_
      obtain ⟨m49, x50, q51, h⟩ := gCl_some h
      refine r_callS (pc := 59) [.ref _, .int _] (tX6_daysOn _ _ _ hF _ _ _ _ _ q51 b48) ⟨rfl, rfl⟩ cd_X6_daysOn wX6_173 nm_X6_daysOn rfl (by rw [hRm]; decide) rfl (Nat.le_of_ble_eq_true rfl) dX6_creditIn_59 ?_
      refine r_pop (pc := 62) dX6_creditIn_62 rfl ?_
      refine r_aload_n (pc := 63) dX6_creditIn_63 rfl rfl ?_
      refine fX6_16 (pc := 64) hF dX6_creditIn_64 (fun b52 => ?_)
      refine r_iload_n (pc := 67) dX6_creditIn_67 rfl rfl ?_
      refine r_bipush (pc := 68) (v := 8) dX6_creditIn_68 (by decide) ?_
      obtain ⟨m53, x54, q55, h⟩ := gCl_some h
      refine r_callS (pc := 70) [.ref _, .int _, .int _] (tX6_of _ _ _ hF _ _ _ _ _ _ q55 b52) ⟨rfl, rfl⟩ cd_X6_of wX6_53 nm_X6_of rfl (by rw [hRm]; decide) rfl (Nat.le_of_ble_eq_true rfl) dX6_creditIn_70 ?_
      exact r_iretH dX6_creditIn_73 h he
    · refine r_iconst (pc := 39) (v := 0) dX6_creditIn_39 (by decide) ?_
      exact r_iretH dX6_creditIn_40 h he
def fX6_clearIn_L40 (v1 : Int32) : Nat → Int32 → gM → Option (gM × Int32)
  | 0, _, _ => none
  | n + 1, v2, m => (if 200 < v2 then some (m, (-1)) else gCl (fX6_of 6082 258 v1 8 m) fun m14 x15 => (if x15 = 0 then some (m14, v2) else gCv (fX6_day 6082 258 m14) fun m18 => gLt (v2 + 1) fun x21 => fX6_clearIn_L40 v1 n x21 m18))
def fX6_clearIn (p1 : Int32) (m : gM) : Option (gM × Int32) := gCl (fX6_isCustomer 5824 258 p1 m) fun m2 x3 => (if x3 = 0 then gCl (fX6_refused 1 m2) fun m5 x6 => (if x6 = 0 then gCv (fX6_copyState 5824 258 0 6082 258 0 m5) fun m10 => fX6_clearIn_L40 p1 gFU 0 m10 else some (m5, 0)) else gCl (fX6_refused 0 m2) fun m36 x37 => (if x37 = 0 then gCv (fX6_copyState 5824 258 0 6082 258 0 m36) fun m41 => fX6_clearIn_L40 p1 gFU 0 m41 else some (m36, 0)))
abbrev rmX6_clearIn : Room := { frames := 6, cells := 0, slots := 0, locals := 139 }
set_option maxHeartbeats 4000000 in
set_option maxRecDepth 100000 in
theorem tX6_clearIn (l : Launch) (G : gX) (u : gU) (hF : gFull u) (p1 : Int32) (m : gM) (o : gM × Int32) (h : fX6_clearIn p1 m = some o)  : gMet l G u yX6_clearIn (.code yX6_clearIn cX6_clearIn 3 (some .int)) rmX6_clearIn [.ref 5693, .int p1] m o.1 (some (.int o.2)) := by
  refine gMet_of (own := RX6) (k := 1) (by decide) rfl ⟨rfl, rfl⟩ (Nat.le_of_ble_eq_true rfl) [some (.ref 5693), some (.int p1), none] rfl (fun Y hG hu hnL hLn hRm he => ?_)
  subst hG hu hLn
  unfold fX6_clearIn at h
  refine r_aload_n (pc := 0) dX6_clearIn_0 rfl rfl ?_
  refine r_aload_n (pc := 1) dX6_clearIn_1 rfl rfl ?_
  refine fX6_13 (pc := 2) hF dX6_clearIn_2 (fun b1 => ?_)
  refine r_iload_n (pc := 5) dX6_clearIn_5 rfl rfl ?_
  obtain ⟨m2, x3, q4, h⟩ := gCl_some h
  refine r_callS (pc := 6) [.ref _, .int _] (tX6_isCustomer _ _ _ hF _ _ _ _ _ q4 b1) ⟨rfl, rfl⟩ cd_X6_isCustomer wX6_139 nm_X6_isCustomer rfl (by rw [hRm]; decide) rfl (Nat.le_of_ble_eq_true rfl) dX6_clearIn_6 ?_
  refine r_if_eq (pc := 9) (tgt := 16) dX6_clearIn_9 (by decide) h (fun h => ?_) (fun h => ?_)
  · refine r_iconst (pc := 16) (v := 1) dX6_clearIn_16 (by decide) ?_
    obtain ⟨m5, x6, q7, h⟩ := gCl_some h
    refine r_callV (kd := 5) (pc := 17) [.int _] (tX6_refused _ _ _ hF _ _ _ q7) ⟨rfl, rfl⟩ cd_X6_refused wX6_108 nm_X6_refused rfl (by rw [hRm]; decide) rfl (Nat.le_of_ble_eq_true rfl) rfl (by decide) (gO5 hF) dX6_clearIn_17 ?_
    refine r_if_eq (pc := 20) (tgt := 25) dX6_clearIn_20 (by decide) h (fun h => ?_) (fun h => ?_)
    · refine r_aload_n (pc := 25) dX6_clearIn_25 rfl rfl ?_
      refine fX6_13 (pc := 26) hF dX6_clearIn_26 (fun b8 => ?_)
      refine r_iconst (pc := 29) (v := 0) dX6_clearIn_29 (by decide) ?_
      refine r_aload_n (pc := 30) dX6_clearIn_30 rfl rfl ?_
      refine fX6_16 (pc := 31) hF dX6_clearIn_31 (fun b9 => ?_)
      refine r_iconst (pc := 34) (v := 0) dX6_clearIn_34 (by decide) ?_
      obtain ⟨m10, q12, h⟩ := gCv_some h
      refine r_callS (pc := 35) [.ref _, .int _, .ref _, .int _] (tX6_copyState _ _ _ hF _ _ _ _ _ _ _ _ q12 b8 b9) ⟨rfl, rfl⟩ cd_X6_copyState wX6_183 nm_X6_copyState rfl (by rw [hRm]; decide) rfl (Nat.le_of_ble_eq_true rfl) dX6_clearIn_35 ?_
      refine r_iconst (pc := 38) (v := 0) dX6_clearIn_38 (by decide) ?_
      refine r_istore_n (pc := 39) dX6_clearIn_39 rfl (by rw [hnL]; decide) rfl ?_
      have L24 : ∀ (n22 : Nat) (v25 : Int32) (m26 : gM), fX6_clearIn_L40 p1 n22 v25 m26 = some o → AW Y cX6_clearIn RX6 40 [some (.ref 5693), some (.int p1), some (.int v25)] [] m26 := by
        intro n22
        induction n22 with
        | zero =>
          intro v25 m26 h
          exact absurd h (by simp [fX6_clearIn_L40])
        | succ n22 ih23 =>
          intro v25 m26 h
          rw [fX6_clearIn_L40] at h
          refine r_iload_n (pc := 40) dX6_clearIn_40 rfl rfl ?_
          refine r_sipush (pc := 41) (v := 200) dX6_clearIn_41 (by decide) ?_
          refine r_icmp_gt (pc := 44) (tgt := 75) dX6_clearIn_44 (by decide) h (fun h => ?_) (fun h => ?_)
          · refine r_iconst (pc := 75) (v := (-1)) dX6_clearIn_75 (by decide) ?_
            exact r_iretH dX6_clearIn_76 h he
          · refine r_aload_n (pc := 47) dX6_clearIn_47 rfl rfl ?_
            refine fX6_16 (pc := 48) hF dX6_clearIn_48 (fun b27 => ?_)
            refine r_iload_n (pc := 51) dX6_clearIn_51 rfl rfl ?_
            refine r_bipush (pc := 52) (v := 8) dX6_clearIn_52 (by decide) ?_
            obtain ⟨m28, x29, q30, h⟩ := gCl_some h
            refine r_callS (pc := 54) [.ref _, .int _, .int _] (tX6_of _ _ _ hF _ _ _ _ _ _ q30 b27) ⟨rfl, rfl⟩ cd_X6_of wX6_53 nm_X6_of rfl (by rw [hRm]; decide) rfl (Nat.le_of_ble_eq_true rfl) dX6_clearIn_54 ?_
            refine r_if_ne (pc := 57) (tgt := 62) dX6_clearIn_57 (by decide) h (fun h => ?_) (fun h => ?_)
            · refine r_aload_n (pc := 62) dX6_clearIn_62 rfl rfl ?_
              refine fX6_16 (pc := 63) hF dX6_clearIn_63 (fun b31 => ?_)
              obtain ⟨m32, q34, h⟩ := gCv_some h
              refine r_callS (pc := 66) [.ref _] (tX6_day _ _ _ hF _ _ _ _ q34 b31) ⟨rfl, rfl⟩ cd_X6_day wX6_92 nm_X6_day rfl (by rw [hRm]; decide) rfl (Nat.le_of_ble_eq_true rfl) dX6_clearIn_66 ?_
              refine r_iinc (pc := 69) (d := 1) dX6_clearIn_69 rfl (by decide) (by rw [hnL]; decide) h (fun x35 h => ?_)
              refine r_goto (pc := 72) (tgt := 40) dX6_clearIn_72 (by decide) ?_
              exact r_mask [true, true, true] rfl (ih23 _ _ h)
            · refine r_iload_n (pc := 60) dX6_clearIn_60 rfl rfl ?_
              exact r_iretH dX6_clearIn_61 h he
      exact r_mask [true, true, true] rfl (L24 _ _ _ h)
    · refine r_iconst (pc := 23) (v := 0) dX6_clearIn_23 (by decide) ?_
      exact r_iretH dX6_clearIn_24 h he
  · refine r_iconst (pc := 12) (v := 0) dX6_clearIn_12 (by decide) ?_
    refine r_goto (pc := 13) (tgt := 17) dX6_clearIn_13 (by decide) ?_
    obtain ⟨m36, x37, q38, h⟩ := gCl_some h
    refine r_callV (kd := 5) (pc := 17) [.int _] (tX6_refused _ _ _ hF _ _ _ q38) ⟨rfl, rfl⟩ cd_X6_refused wX6_108 nm_X6_refused rfl (by rw [hRm]; decide) rfl (Nat.le_of_ble_eq_true rfl) rfl (by decide) (gO5 hF) dX6_clearIn_17 ?_
    refine r_if_eq (pc := 20) (tgt := 25) dX6_clearIn_20 (by decide) h (fun h => ?_) (fun h => ?_)
    · refine r_aload_n (pc := 25) dX6_clearIn_25 rfl rfl ?_
      refine fX6_13 (pc := 26) hF dX6_clearIn_26 (fun b39 => ?_)
      refine r_iconst (pc := 29) (v := 0) dX6_clearIn_29 (by decide) ?_
      refine r_aload_n (pc := 30) dX6_clearIn_30 rfl rfl ?_
      refine fX6_16 (pc := 31) hF dX6_clearIn_31 (fun b40 => ?_)
      refine r_iconst (pc := 34) (v := 0) dX6_clearIn_34 (by decide) ?_
      obtain ⟨m41, q43, h⟩ := gCv_some h
      refine r_callS (pc := 35) [.ref _, .int _, .ref _, .int _] (tX6_copyState _ _ _ hF _ _ _ _ _ _ _ _ q43 b39 b40) ⟨rfl, rfl⟩ cd_X6_copyState wX6_183 nm_X6_copyState rfl (by rw [hRm]; decide) rfl (Nat.le_of_ble_eq_true rfl) dX6_clearIn_35 ?_
      refine r_iconst (pc := 38) (v := 0) dX6_clearIn_38 (by decide) ?_
      refine r_istore_n (pc := 39) dX6_clearIn_39 rfl (by rw [hnL]; decide) rfl ?_
      have L46 : ∀ (n44 : Nat) (v47 : Int32) (m48 : gM), fX6_clearIn_L40 p1 n44 v47 m48 = some o → AW Y cX6_clearIn RX6 40 [some (.ref 5693), some (.int p1), some (.int v47)] [] m48 := by
        intro n44
        induction n44 with
        | zero =>
          intro v47 m48 h
          exact absurd h (by simp [fX6_clearIn_L40])
        | succ n44 ih45 =>
          intro v47 m48 h
          rw [fX6_clearIn_L40] at h
          refine r_iload_n (pc := 40) dX6_clearIn_40 rfl rfl ?_
          refine r_sipush (pc := 41) (v := 200) dX6_clearIn_41 (by decide) ?_
          refine r_icmp_gt (pc := 44) (tgt := 75) dX6_clearIn_44 (by decide) h (fun h => ?_) (fun h => ?_)
          · refine r_iconst (pc := 75) (v := (-1)) dX6_clearIn_75 (by decide) ?_
            exact r_iretH dX6_clearIn_76 h he
          · refine r_aload_n (pc := 47) dX6_clearIn_47 rfl rfl ?_
            refine fX6_16 (pc := 48) hF dX6_clearIn_48 (fun b49 => ?_)
            refine r_iload_n (pc := 51) dX6_clearIn_51 rfl rfl ?_
            refine r_bipush (pc := 52) (v := 8) dX6_clearIn_52 (by decide) ?_
            obtain ⟨m50, x51, q52, h⟩ := gCl_some h
            refine r_callS (pc := 54) [.ref _, .int _, .int _] (tX6_of _ _ _ hF _ _ _ _ _ _ q52 b49) ⟨rfl, rfl⟩ cd_X6_of wX6_53 nm_X6_of rfl (by rw [hRm]; decide) rfl (Nat.le_of_ble_eq_true rfl) dX6_clearIn_54 ?_
            refine r_if_ne (pc := 57) (tgt := 62) dX6_clearIn_57 (by decide) h (fun h => ?_) (fun h => ?_)
            · refine r_aload_n (pc := 62) dX6_clearIn_62 rfl rfl ?_
              refine fX6_16 (pc := 63) hF dX6_clearIn_63 (fun b53 => ?_)
              obtain ⟨m54, q56, h⟩ := gCv_some h
              refine r_callS (pc := 66) [.ref _] (tX6_day _ _ _ hF _ _ _ _ q56 b53) ⟨rfl, rfl⟩ cd_X6_day wX6_92 nm_X6_day rfl (by rw [hRm]; decide) rfl (Nat.le_of_ble_eq_true rfl) dX6_clearIn_66 ?_
              refine r_iinc (pc := 69) (d := 1) dX6_clearIn_69 rfl (by decide) (by rw [hnL]; decide) h (fun x57 h => ?_)
              refine r_goto (pc := 72) (tgt := 40) dX6_clearIn_72 (by decide) ?_
              exact r_mask [true, true, true] rfl (ih45 _ _ h)
            · refine r_iload_n (pc := 60) dX6_clearIn_60 rfl rfl ?_
              exact r_iretH dX6_clearIn_61 h he
      exact r_mask [true, true, true] rfl (L46 _ _ _ h)
    · refine r_iconst (pc := 23) (v := 0) dX6_clearIn_23 (by decide) ?_
      exact r_iretH dX6_clearIn_24 h he
def fX6_leastOven_L53 (v1 : Int32) (v2 : Int32) (v3 : Int32) (r35 : Int32 → Int32 → gM → Option (gM × Int32)) : Nat → Int32 → Int32 → gM → Option (gM × Int32)
  | 0, _, _, _ => none
  | n + 1, v4, v5, m => gRd m 5824 258 0 fun x12 => (if x12 ≤ v5 then (if v4 ≤ v2 then gLt (v3 + 1) fun x13 => r35 v2 x13 m else gLt (v3 + 1) fun x14 => r35 v4 x14 m) else gCl (fX6_isOpen 5824 258 v5 v3 m) fun m16 x17 => (if x17 = 0 then gLt ((v4 + 0)) fun x19 => gLt (v5 + 1) fun x20 => fX6_leastOven_L53 v1 v2 v3 r35 n x19 x20 m16 else gCl (fX6_dueOn 5824 258 v5 v3 m16) fun m22 x23 => gLt ((v4 + x23)) fun x25 => gLt (v5 + 1) fun x26 => fX6_leastOven_L53 v1 v2 v3 r35 n x25 x26 m22))
def fX6_leastOven_L35 (v1 : Int32) : Nat → Int32 → Int32 → gM → Option (gM × Int32)
  | 0, _, _, _ => none
  | n + 1, v2, v3, m => gRd m 5824 258 1 fun x10 => (if (x10 + v1) ≤ v3 then some (m, v2) else fX6_leastOven_L53 v1 v2 v3 (fX6_leastOven_L35 v1 n) gFU 0 0 m)
def fX6_leastOven (p1 : Int32) (m : gM) : Option (gM × Int32) := gCl (fX6_in (p1.toInt64) 1 60 m) fun m1 x2 => (if x2 = 0 then gCl (fX6_refused 1 m1) fun m4 x5 => (if x5 = 0 then gRd m4 5824 258 1 fun x8 => fX6_leastOven_L35 p1 gFU 0 x8 m4 else some (m4, 0)) else gCl (fX6_refused 0 m1) fun m79 x80 => (if x80 = 0 then gRd m79 5824 258 1 fun x83 => fX6_leastOven_L35 p1 gFU 0 x83 m79 else some (m79, 0)))
abbrev rmX6_leastOven : Room := { frames := 3, cells := 0, slots := 0, locals := 71 }
set_option maxHeartbeats 4000000 in
set_option maxRecDepth 100000 in
theorem tX6_leastOven (l : Launch) (G : gX) (u : gU) (hF : gFull u) (p1 : Int32) (m : gM) (o : gM × Int32) (h : fX6_leastOven p1 m = some o)  : gMet l G u yX6_leastOven (.code yX6_leastOven cX6_leastOven 6 (some .int)) rmX6_leastOven [.ref 5693, .int p1] m o.1 (some (.int o.2)) := by
  refine gMet_of (own := RX6) (k := 4) (by decide) rfl ⟨rfl, rfl⟩ (Nat.le_of_ble_eq_true rfl) [some (.ref 5693), some (.int p1), none, none, none, none] rfl (fun Y hG hu hnL hLn hRm he => ?_)
  subst hG hu hLn
  unfold fX6_leastOven at h
  refine r_aload_n (pc := 0) dX6_leastOven_0 rfl rfl ?_
  refine r_iload_n (pc := 1) dX6_leastOven_1 rfl rfl ?_
  refine r_i2l (pc := 2) dX6_leastOven_2 ?_
  refine r_lconst (pc := 3) (v := 1) dX6_leastOven_3 (by decide) ?_
  refine r_ldc2 (pc := 4) (v := 60) dX6_leastOven_4 cX6_223 ?_
  obtain ⟨m1, x2, q3, h⟩ := gCl_some h
  refine r_callS (pc := 7) [.long _, .long _, .long _] (tX6_in _ _ _ hF _ _ _ _ _ q3) ⟨rfl, rfl⟩ cd_X6_in wX6_37 nm_X6_in rfl (by rw [hRm]; decide) rfl (Nat.le_of_ble_eq_true rfl) dX6_leastOven_7 ?_
  refine r_if_eq (pc := 10) (tgt := 17) dX6_leastOven_10 (by decide) h (fun h => ?_) (fun h => ?_)
  · refine r_iconst (pc := 17) (v := 1) dX6_leastOven_17 (by decide) ?_
    obtain ⟨m4, x5, q6, h⟩ := gCl_some h
    refine r_callV (kd := 5) (pc := 18) [.int _] (tX6_refused _ _ _ hF _ _ _ q6) ⟨rfl, rfl⟩ cd_X6_refused wX6_108 nm_X6_refused rfl (by rw [hRm]; decide) rfl (Nat.le_of_ble_eq_true rfl) rfl (by decide) (gO5 hF) dX6_leastOven_18 ?_
    refine r_if_eq (pc := 21) (tgt := 26) dX6_leastOven_21 (by decide) h (fun h => ?_) (fun h => ?_)
    · refine r_iconst (pc := 26) (v := 0) dX6_leastOven_26 (by decide) ?_
      refine r_istore_n (pc := 27) dX6_leastOven_27 rfl (by rw [hnL]; decide) rfl ?_
      refine r_aload_n (pc := 28) dX6_leastOven_28 rfl rfl ?_
      refine fX6_13 (pc := 29) hF dX6_leastOven_29 (fun b7 => ?_)
      refine r_iconst (pc := 32) (v := 1) dX6_leastOven_32 (by decide) ?_
      refine r_iald (pc := 33) dX6_leastOven_33 b7 h (fun x8 h => ?_)
      refine r_istore_n (pc := 34) dX6_leastOven_34 rfl (by rw [hnL]; decide) rfl ?_
      have L51 : ∀ (n49 : Nat) (v52 : Int32) (v53 : Int32) (m54 : gM), fX6_leastOven_L35 p1 n49 v52 v53 m54 = some o → AW Y cX6_leastOven RX6 35 [some (.ref 5693), some (.int p1), some (.int v52), some (.int v53), none, none] [] m54 := by
        intro n49
        induction n49 with
        | zero =>
          intro v52 v53 m54 h
          exact absurd h (by simp [fX6_leastOven_L35])
        | succ n49 ih50 =>
          intro v52 v53 m54 h
          rw [fX6_leastOven_L35] at h
          refine r_iload_n (pc := 35) dX6_leastOven_35 rfl rfl ?_
          refine r_aload_n (pc := 36) dX6_leastOven_36 rfl rfl ?_
          refine fX6_13 (pc := 37) hF dX6_leastOven_37 (fun b55 => ?_)
          refine r_iconst (pc := 40) (v := 1) dX6_leastOven_40 (by decide) ?_
          refine r_iald (pc := 41) dX6_leastOven_41 b55 h (fun x56 h => ?_)
          refine r_iload_n (pc := 42) dX6_leastOven_42 rfl rfl ?_
          refine r_iadd (pc := 43) dX6_leastOven_43 ?_
          refine r_icmp_ge (pc := 44) (tgt := 121) dX6_leastOven_44 (by decide) h (fun h => ?_) (fun h => ?_)
          · refine r_iload_n (pc := 121) dX6_leastOven_121 rfl rfl ?_
            exact r_iretH dX6_leastOven_122 h he
          · refine r_iconst (pc := 47) (v := 0) dX6_leastOven_47 (by decide) ?_
            refine r_istore (pc := 48) dX6_leastOven_48 (by rw [hnL]; decide) rfl ?_
            refine r_iconst (pc := 50) (v := 0) dX6_leastOven_50 (by decide) ?_
            refine r_istore (pc := 51) dX6_leastOven_51 (by rw [hnL]; decide) rfl ?_
            have L59 : ∀ (n57 : Nat) (v60 : Int32) (v61 : Int32) (m62 : gM), fX6_leastOven_L53 p1 v52 v53 (fX6_leastOven_L35 p1 n49) n57 v60 v61 m62 = some o → AW Y cX6_leastOven RX6 53 [some (.ref 5693), some (.int p1), some (.int v52), some (.int v53), some (.int v60), some (.int v61)] [] m62 := by
              intro n57
              induction n57 with
              | zero =>
                intro v60 v61 m62 h
                exact absurd h (by simp [fX6_leastOven_L53])
              | succ n57 ih58 =>
                intro v60 v61 m62 h
                rw [fX6_leastOven_L53] at h
                refine r_iload (pc := 53) dX6_leastOven_53 rfl ?_
                refine r_aload_n (pc := 55) dX6_leastOven_55 rfl rfl ?_
                refine fX6_13 (pc := 56) hF dX6_leastOven_56 (fun b63 => ?_)
                refine r_iconst (pc := 59) (v := 0) dX6_leastOven_59 (by decide) ?_
                refine r_iald (pc := 60) dX6_leastOven_60 b63 h (fun x64 h => ?_)
                refine r_icmp_ge (pc := 61) (tgt := 102) dX6_leastOven_61 (by decide) h (fun h => ?_) (fun h => ?_)
                · refine r_iload (pc := 102) dX6_leastOven_102 rfl ?_
                  refine r_iload_n (pc := 104) dX6_leastOven_104 rfl rfl ?_
                  refine r_icmp_le (pc := 105) (tgt := 113) dX6_leastOven_105 (by decide) h (fun h => ?_) (fun h => ?_)
                  · refine r_iload_n (pc := 113) dX6_leastOven_113 rfl rfl ?_
                    refine r_istore_n (pc := 114) dX6_leastOven_114 rfl (by rw [hnL]; decide) rfl ?_
                    refine r_iinc (pc := 115) (d := 1) dX6_leastOven_115 rfl (by decide) (by rw [hnL]; decide) h (fun x65 h => ?_)
                    refine r_goto (pc := 118) (tgt := 35) dX6_leastOven_118 (by decide) ?_
                    exact r_mask [true, true, true, true, false, false] rfl (ih50 _ _ _ h)
                  · refine r_iload (pc := 108) dX6_leastOven_108 rfl ?_
                    refine r_goto (pc := 110) (tgt := 114) dX6_leastOven_110 (by decide) ?_
                    refine r_istore_n (pc := 114) dX6_leastOven_114 rfl (by rw [hnL]; decide) rfl ?_
                    refine r_iinc (pc := 115) (d := 1) dX6_leastOven_115 rfl (by decide) (by rw [hnL]; decide) h (fun x66 h => ?_)
                    refine r_goto (pc := 118) (tgt := 35) dX6_leastOven_118 (by decide) ?_
                    exact r_mask [true, true, true, true, false, false] rfl (ih50 _ _ _ h)
                · refine r_iload (pc := 64) dX6_leastOven_64 rfl ?_
                  refine r_aload_n (pc := 66) dX6_leastOven_66 rfl rfl ?_
                  refine fX6_13 (pc := 67) hF dX6_leastOven_67 (fun b67 => ?_)
                  refine r_iload (pc := 70) dX6_leastOven_70 rfl ?_
                  refine r_iload_n (pc := 72) dX6_leastOven_72 rfl rfl ?_
                  obtain ⟨m68, x69, q70, h⟩ := gCl_some h
                  refine r_callS (pc := 73) [.ref _, .int _, .int _] (tX6_isOpen _ _ _ hF _ _ _ _ _ _ q70 b67) ⟨rfl, rfl⟩ cd_X6_isOpen wX6_68 nm_X6_isOpen rfl (by rw [hRm]; decide) rfl (Nat.le_of_ble_eq_true rfl) dX6_leastOven_73 ?_
                  refine r_if_eq (pc := 76) (tgt := 92) dX6_leastOven_76 (by decide) h (fun h => ?_) (fun h => ?_)
                  · refine r_iconst (pc := 92) (v := 0) dX6_leastOven_92 (by decide) ?_
                    refine r_iadd (pc := 93) dX6_leastOven_93 ?_
                    refine r_istoreL (pc := 94) dX6_leastOven_94 (by rw [hnL]; decide) h (fun x71 h => ?_)
                    refine r_iinc (pc := 96) (d := 1) dX6_leastOven_96 rfl (by decide) (by rw [hnL]; decide) h (fun x72 h => ?_)
                    refine r_goto (pc := 99) (tgt := 53) dX6_leastOven_99 (by decide) ?_
                    exact r_mask [true, true, true, true, true, true] rfl (ih58 _ _ _ h)
                  · refine r_aload_n (pc := 79) dX6_leastOven_79 rfl rfl ?_
                    refine fX6_13 (pc := 80) hF dX6_leastOven_80 (fun b73 => ?_)
                    refine r_iload (pc := 83) dX6_leastOven_83 rfl ?_
                    refine r_iload_n (pc := 85) dX6_leastOven_85 rfl rfl ?_
                    obtain ⟨m74, x75, q76, h⟩ := gCl_some h
                    refine r_callS (pc := 86) [.ref _, .int _, .int _] (tX6_dueOn _ _ _ hF _ _ _ _ _ _ q76 b73) ⟨rfl, rfl⟩ cd_X6_dueOn wX6_61 nm_X6_dueOn rfl (by rw [hRm]; decide) rfl (Nat.le_of_ble_eq_true rfl) dX6_leastOven_86 ?_
                    refine r_goto (pc := 89) (tgt := 93) dX6_leastOven_89 (by decide) ?_
                    refine r_iadd (pc := 93) dX6_leastOven_93 ?_
                    refine r_istoreL (pc := 94) dX6_leastOven_94 (by rw [hnL]; decide) h (fun x77 h => ?_)
                    refine r_iinc (pc := 96) (d := 1) dX6_leastOven_96 rfl (by decide) (by rw [hnL]; decide) h (fun x78 h => ?_)
                    refine r_goto (pc := 99) (tgt := 53) dX6_leastOven_99 (by decide) ?_
                    exact r_mask [true, true, true, true, true, true] rfl (ih58 _ _ _ h)
            exact r_mask [true, true, true, true, true, true] rfl (L59 _ _ _ _ h)
      exact r_mask [true, true, true, true, false, false] rfl (L51 _ _ _ _ h)
    · refine r_iconst (pc := 24) (v := 0) dX6_leastOven_24 (by decide) ?_
      exact r_iretH dX6_leastOven_25 h he
  · refine r_iconst (pc := 13) (v := 0) dX6_leastOven_13 (by decide) ?_
    refine r_goto (pc := 14) (tgt := 18) dX6_leastOven_14 (by decide) ?_
    obtain ⟨m79, x80, q81, h⟩ := gCl_some h
    refine r_callV (kd := 5) (pc := 18) [.int _] (tX6_refused _ _ _ hF _ _ _ q81) ⟨rfl, rfl⟩ cd_X6_refused wX6_108 nm_X6_refused rfl (by rw [hRm]; decide) rfl (Nat.le_of_ble_eq_true rfl) rfl (by decide) (gO5 hF) dX6_leastOven_18 ?_
    refine r_if_eq (pc := 21) (tgt := 26) dX6_leastOven_21 (by decide) h (fun h => ?_) (fun h => ?_)
    · refine r_iconst (pc := 26) (v := 0) dX6_leastOven_26 (by decide) ?_
      refine r_istore_n (pc := 27) dX6_leastOven_27 rfl (by rw [hnL]; decide) rfl ?_
      refine r_aload_n (pc := 28) dX6_leastOven_28 rfl rfl ?_
      refine fX6_13 (pc := 29) hF dX6_leastOven_29 (fun b82 => ?_)
      refine r_iconst (pc := 32) (v := 1) dX6_leastOven_32 (by decide) ?_
      refine r_iald (pc := 33) dX6_leastOven_33 b82 h (fun x83 h => ?_)
      refine r_istore_n (pc := 34) dX6_leastOven_34 rfl (by rw [hnL]; decide) rfl ?_
      have L86 : ∀ (n84 : Nat) (v87 : Int32) (v88 : Int32) (m89 : gM), fX6_leastOven_L35 p1 n84 v87 v88 m89 = some o → AW Y cX6_leastOven RX6 35 [some (.ref 5693), some (.int p1), some (.int v87), some (.int v88), none, none] [] m89 := by
        intro n84
        induction n84 with
        | zero =>
          intro v87 v88 m89 h
          exact absurd h (by simp [fX6_leastOven_L35])
        | succ n84 ih85 =>
          intro v87 v88 m89 h
          rw [fX6_leastOven_L35] at h
          refine r_iload_n (pc := 35) dX6_leastOven_35 rfl rfl ?_
          refine r_aload_n (pc := 36) dX6_leastOven_36 rfl rfl ?_
          refine fX6_13 (pc := 37) hF dX6_leastOven_37 (fun b90 => ?_)
          refine r_iconst (pc := 40) (v := 1) dX6_leastOven_40 (by decide) ?_
          refine r_iald (pc := 41) dX6_leastOven_41 b90 h (fun x91 h => ?_)
          refine r_iload_n (pc := 42) dX6_leastOven_42 rfl rfl ?_
          refine r_iadd (pc := 43) dX6_leastOven_43 ?_
          refine r_icmp_ge (pc := 44) (tgt := 121) dX6_leastOven_44 (by decide) h (fun h => ?_) (fun h => ?_)
          · refine r_iload_n (pc := 121) dX6_leastOven_121 rfl rfl ?_
            exact r_iretH dX6_leastOven_122 h he
          · refine r_iconst (pc := 47) (v := 0) dX6_leastOven_47 (by decide) ?_
            refine r_istore (pc := 48) dX6_leastOven_48 (by rw [hnL]; decide) rfl ?_
            refine r_iconst (pc := 50) (v := 0) dX6_leastOven_50 (by decide) ?_
            refine r_istore (pc := 51) dX6_leastOven_51 (by rw [hnL]; decide) rfl ?_
            have L94 : ∀ (n92 : Nat) (v95 : Int32) (v96 : Int32) (m97 : gM), fX6_leastOven_L53 p1 v87 v88 (fX6_leastOven_L35 p1 n84) n92 v95 v96 m97 = some o → AW Y cX6_leastOven RX6 53 [some (.ref 5693), some (.int p1), some (.int v87), some (.int v88), some (.int v95), some (.int v96)] [] m97 := by
              intro n92
              induction n92 with
              | zero =>
                intro v95 v96 m97 h
                exact absurd h (by simp [fX6_leastOven_L53])
              | succ n92 ih93 =>
                intro v95 v96 m97 h
                rw [fX6_leastOven_L53] at h
                refine r_iload (pc := 53) dX6_leastOven_53 rfl ?_
                refine r_aload_n (pc := 55) dX6_leastOven_55 rfl rfl ?_
                refine fX6_13 (pc := 56) hF dX6_leastOven_56 (fun b98 => ?_)
                refine r_iconst (pc := 59) (v := 0) dX6_leastOven_59 (by decide) ?_
                refine r_iald (pc := 60) dX6_leastOven_60 b98 h (fun x99 h => ?_)
                refine r_icmp_ge (pc := 61) (tgt := 102) dX6_leastOven_61 (by decide) h (fun h => ?_) (fun h => ?_)
                · refine r_iload (pc := 102) dX6_leastOven_102 rfl ?_
                  refine r_iload_n (pc := 104) dX6_leastOven_104 rfl rfl ?_
                  refine r_icmp_le (pc := 105) (tgt := 113) dX6_leastOven_105 (by decide) h (fun h => ?_) (fun h => ?_)
                  · refine r_iload_n (pc := 113) dX6_leastOven_113 rfl rfl ?_
                    refine r_istore_n (pc := 114) dX6_leastOven_114 rfl (by rw [hnL]; decide) rfl ?_
                    refine r_iinc (pc := 115) (d := 1) dX6_leastOven_115 rfl (by decide) (by rw [hnL]; decide) h (fun x100 h => ?_)
                    refine r_goto (pc := 118) (tgt := 35) dX6_leastOven_118 (by decide) ?_
                    exact r_mask [true, true, true, true, false, false] rfl (ih85 _ _ _ h)
                  · refine r_iload (pc := 108) dX6_leastOven_108 rfl ?_
                    refine r_goto (pc := 110) (tgt := 114) dX6_leastOven_110 (by decide) ?_
                    refine r_istore_n (pc := 114) dX6_leastOven_114 rfl (by rw [hnL]; decide) rfl ?_
                    refine r_iinc (pc := 115) (d := 1) dX6_leastOven_115 rfl (by decide) (by rw [hnL]; decide) h (fun x101 h => ?_)
                    refine r_goto (pc := 118) (tgt := 35) dX6_leastOven_118 (by decide) ?_
                    exact r_mask [true, true, true, true, false, false] rfl (ih85 _ _ _ h)
                · refine r_iload (pc := 64) dX6_leastOven_64 rfl ?_
                  refine r_aload_n (pc := 66) dX6_leastOven_66 rfl rfl ?_
                  refine fX6_13 (pc := 67) hF dX6_leastOven_67 (fun b102 => ?_)
                  refine r_iload (pc := 70) dX6_leastOven_70 rfl ?_
                  refine r_iload_n (pc := 72) dX6_leastOven_72 rfl rfl ?_
                  obtain ⟨m103, x104, q105, h⟩ := gCl_some h
                  refine r_callS (pc := 73) [.ref _, .int _, .int _] (tX6_isOpen _ _ _ hF _ _ _ _ _ _ q105 b102) ⟨rfl, rfl⟩ cd_X6_isOpen wX6_68 nm_X6_isOpen rfl (by rw [hRm]; decide) rfl (Nat.le_of_ble_eq_true rfl) dX6_leastOven_73 ?_
                  refine r_if_eq (pc := 76) (tgt := 92) dX6_leastOven_76 (by decide) h (fun h => ?_) (fun h => ?_)
                  · refine r_iconst (pc := 92) (v := 0) dX6_leastOven_92 (by decide) ?_
                    refine r_iadd (pc := 93) dX6_leastOven_93 ?_
                    refine r_istoreL (pc := 94) dX6_leastOven_94 (by rw [hnL]; decide) h (fun x106 h => ?_)
                    refine r_iinc (pc := 96) (d := 1) dX6_leastOven_96 rfl (by decide) (by rw [hnL]; decide) h (fun x107 h => ?_)
                    refine r_goto (pc := 99) (tgt := 53) dX6_leastOven_99 (by decide) ?_
                    exact r_mask [true, true, true, true, true, true] rfl (ih93 _ _ _ h)
                  · refine r_aload_n (pc := 79) dX6_leastOven_79 rfl rfl ?_
                    refine fX6_13 (pc := 80) hF dX6_leastOven_80 (fun b108 => ?_)
                    refine r_iload (pc := 83) dX6_leastOven_83 rfl ?_
                    refine r_iload_n (pc := 85) dX6_leastOven_85 rfl rfl ?_
                    obtain ⟨m109, x110, q111, h⟩ := gCl_some h
                    refine r_callS (pc := 86) [.ref _, .int _, .int _] (tX6_dueOn _ _ _ hF _ _ _ _ _ _ q111 b108) ⟨rfl, rfl⟩ cd_X6_dueOn wX6_61 nm_X6_dueOn rfl (by rw [hRm]; decide) rfl (Nat.le_of_ble_eq_true rfl) dX6_leastOven_86 ?_
                    refine r_goto (pc := 89) (tgt := 93) dX6_leastOven_89 (by decide) ?_
                    refine r_iadd (pc := 93) dX6_leastOven_93 ?_
                    refine r_istoreL (pc := 94) dX6_leastOven_94 (by rw [hnL]; decide) h (fun x112 h => ?_)
                    refine r_iinc (pc := 96) (d := 1) dX6_leastOven_96 rfl (by decide) (by rw [hnL]; decide) h (fun x113 h => ?_)
                    refine r_goto (pc := 99) (tgt := 53) dX6_leastOven_99 (by decide) ?_
                    exact r_mask [true, true, true, true, true, true] rfl (ih93 _ _ _ h)
            exact r_mask [true, true, true, true, true, true] rfl (L94 _ _ _ _ h)
      exact r_mask [true, true, true, true, false, false] rfl (L86 _ _ _ _ h)
    · refine r_iconst (pc := 24) (v := 0) dX6_leastOven_24 (by decide) ?_
      exact r_iretH dX6_leastOven_25 h he
def fX6_isOrder_L6  : Nat → Int32 → Int32 → Int32 → gM → Option (gM × Int32)
  | 0, _, _, _, _ => none
  | n + 1, v1, v2, v3, m => (if 4 ≤ v3 then (if v1 = 15 then gRz .boolean 1 (some (m, 1)) else gRz .boolean 0 (some (m, 0))) else (if 4 ≤ (v2 - v2 / 10 * 10) then gLt ((v1 ||| 0)) fun x1 => gLt ((v2 / 10)) fun x2 => gLt (v3 + 1) fun x3 => fX6_isOrder_L6 n x1 x2 x3 m else gLt ((v1 ||| (1 <<< ((v2 - v2 / 10 * 10) &&& 31)))) fun x4 => gLt ((v2 / 10)) fun x5 => gLt (v3 + 1) fun x6 => fX6_isOrder_L6 n x4 x5 x6 m))
def fX6_isOrder (p1 : Int32) (m : gM) : Option (gM × Int32) := fX6_isOrder_L6 gFU 0 p1 0 m
abbrev rmX6_isOrder : Room := { frames := 0, cells := 0, slots := 0, locals := 0 }
set_option maxHeartbeats 4000000 in
set_option maxRecDepth 100000 in
theorem tX6_isOrder (l : Launch) (G : gX) (u : gU) (hF : gFull u) (p1 : Int32) (m : gM) (o : gM × Int32) (h : fX6_isOrder p1 m = some o)  : gMet l G u yX6_isOrder (.code yX6_isOrder cX6_isOrder 4 (some .boolean)) rmX6_isOrder [.int p1] m o.1 (some (.int o.2)) := by
  refine gMet_of (own := RX6) (k := 3) (by decide) rfl ⟨rfl, rfl⟩ (Nat.le_of_ble_eq_true rfl) [some (.int p1), none, none, none] rfl (fun Y hG hu hnL hLn hRm he => ?_)
  subst hG hu hLn
  unfold fX6_isOrder at h
  refine r_iconst (pc := 0) (v := 0) dX6_isOrder_0 (by decide) ?_
  refine r_istore_n (pc := 1) dX6_isOrder_1 rfl (by rw [hnL]; decide) rfl ?_
  refine r_iload_n (pc := 2) dX6_isOrder_2 rfl rfl ?_
  refine r_istore_n (pc := 3) dX6_isOrder_3 rfl (by rw [hnL]; decide) rfl ?_
  refine r_iconst (pc := 4) (v := 0) dX6_isOrder_4 (by decide) ?_
  refine r_istore_n (pc := 5) dX6_isOrder_5 rfl (by rw [hnL]; decide) rfl ?_
  have L9 : ∀ (n7 : Nat) (v10 : Int32) (v11 : Int32) (v12 : Int32) (m13 : gM), fX6_isOrder_L6 n7 v10 v11 v12 m13 = some o → AW Y cX6_isOrder RX6 6 [none, some (.int v10), some (.int v11), some (.int v12)] [] m13 := by
    intro n7
    induction n7 with
    | zero =>
      intro v10 v11 v12 m13 h
      exact absurd h (by simp [fX6_isOrder_L6])
    | succ n7 ih8 =>
      intro v10 v11 v12 m13 h
      rw [fX6_isOrder_L6] at h
      refine r_iload_n (pc := 6) dX6_isOrder_6 rfl rfl ?_
      refine r_iconst (pc := 7) (v := 4) dX6_isOrder_7 (by decide) ?_
      refine r_icmp_ge (pc := 8) (tgt := 43) dX6_isOrder_8 (by decide) h (fun h => ?_) (fun h => ?_)
      · refine r_iload_n (pc := 43) dX6_isOrder_43 rfl rfl ?_
        refine r_bipush (pc := 44) (v := 15) dX6_isOrder_44 (by decide) ?_
        refine r_icmp_ne (pc := 46) (tgt := 53) dX6_isOrder_46 (by decide) h (fun h => ?_) (fun h => ?_)
        · refine r_iconst (pc := 53) (v := 0) dX6_isOrder_53 (by decide) ?_
          exact r_zretH dX6_isOrder_54 rfl h he
        · refine r_iconst (pc := 49) (v := 1) dX6_isOrder_49 (by decide) ?_
          refine r_goto (pc := 50) (tgt := 54) dX6_isOrder_50 (by decide) ?_
          exact r_zretH dX6_isOrder_54 rfl h he
      · refine r_iload_n (pc := 11) dX6_isOrder_11 rfl rfl ?_
        refine r_iload_n (pc := 12) dX6_isOrder_12 rfl rfl ?_
        refine r_bipush (pc := 13) (v := 10) dX6_isOrder_13 (by decide) ?_
        refine r_iremc (pc := 15) dX6_isOrder_15 (by decide) ?_
        refine r_iconst (pc := 16) (v := 4) dX6_isOrder_16 (by decide) ?_
        refine r_icmp_ge (pc := 17) (tgt := 29) dX6_isOrder_17 (by decide) h (fun h => ?_) (fun h => ?_)
        · refine r_iconst (pc := 29) (v := 0) dX6_isOrder_29 (by decide) ?_
          refine r_ior (pc := 30) dX6_isOrder_30 ?_
          refine r_istore_nL (pc := 31) dX6_isOrder_31 rfl (by rw [hnL]; decide) h (fun x14 h => ?_)
          refine r_iload_n (pc := 32) dX6_isOrder_32 rfl rfl ?_
          refine r_bipush (pc := 33) (v := 10) dX6_isOrder_33 (by decide) ?_
          refine r_idivc (pc := 35) dX6_isOrder_35 (by decide) ?_
          refine r_istore_nL (pc := 36) dX6_isOrder_36 rfl (by rw [hnL]; decide) h (fun x15 h => ?_)
          refine r_iinc (pc := 37) (d := 1) dX6_isOrder_37 rfl (by decide) (by rw [hnL]; decide) h (fun x16 h => ?_)
          refine r_goto (pc := 40) (tgt := 6) dX6_isOrder_40 (by decide) ?_
          exact r_mask [false, true, true, true] rfl (ih8 _ _ _ _ h)
        · refine r_iconst (pc := 20) (v := 1) dX6_isOrder_20 (by decide) ?_
          refine r_iload_n (pc := 21) dX6_isOrder_21 rfl rfl ?_
          refine r_bipush (pc := 22) (v := 10) dX6_isOrder_22 (by decide) ?_
          refine r_iremc (pc := 24) dX6_isOrder_24 (by decide) ?_
          refine r_ishl (pc := 25) dX6_isOrder_25 rfl ?_
          refine r_goto (pc := 26) (tgt := 30) dX6_isOrder_26 (by decide) ?_
          refine r_ior (pc := 30) dX6_isOrder_30 ?_
          refine r_istore_nL (pc := 31) dX6_isOrder_31 rfl (by rw [hnL]; decide) h (fun x17 h => ?_)
          refine r_iload_n (pc := 32) dX6_isOrder_32 rfl rfl ?_
          refine r_bipush (pc := 33) (v := 10) dX6_isOrder_33 (by decide) ?_
          refine r_idivc (pc := 35) dX6_isOrder_35 (by decide) ?_
          refine r_istore_nL (pc := 36) dX6_isOrder_36 rfl (by rw [hnL]; decide) h (fun x18 h => ?_)
          refine r_iinc (pc := 37) (d := 1) dX6_isOrder_37 rfl (by decide) (by rw [hnL]; decide) h (fun x19 h => ?_)
          refine r_goto (pc := 40) (tgt := 6) dX6_isOrder_40 (by decide) ?_
          exact r_mask [false, true, true, true] rfl (ih8 _ _ _ _ h)
  exact r_mask [false, true, true, true] rfl (L9 _ _ _ _ _ h)
def fX6_bestRound_L34 (v1 : Int32) : Nat → Int32 → Int32 → Int32 → gM → Option (gM × Int32)
  | 0, _, _, _, _ => none
  | n + 1, v2, v3, v4, m => (if 3210 < v4 then some (m, v2) else gCl (fX6_isOrder v4 m) fun m7 x8 => (if x8 = 0 then gLt (v4 + 1) fun x10 => fX6_bestRound_L34 v1 n v2 v3 x10 m7 else gCv (fX6_copyState 5824 258 0 6082 258 0 m7) fun m13 => gWr m13 6082 258 16 (v4 / 1000) fun m17 => gWr m17 6082 258 17 ((v4 / 100) - (v4 / 100) / 10 * 10) fun m19 => gWr m19 6082 258 18 ((v4 / 10) - (v4 / 10) / 10 * 10) fun m21 => gWr m21 6082 258 19 (v4 - v4 / 10 * 10) fun m23 => gCl (fX6_daysOn 6082 258 v1 m23) fun m25 x26 => (if v2 = (-1) then (if (1 : Int32) = 0 then (if (1 : Int32) = 0 then gLt (v4 + 1) fun x28 => fX6_bestRound_L34 v1 n v2 v3 x28 m25 else gCl (fX6_credits 6082 258 m25) fun m30 x31 => gLt (v4 + 1) fun x33 => fX6_bestRound_L34 v1 n v2 x31 x33 m30) else (if (1 : Int32) = 0 then gLt (v4 + 1) fun x34 => fX6_bestRound_L34 v1 n v4 v3 x34 m25 else gCl (fX6_credits 6082 258 m25) fun m36 x37 => gLt (v4 + 1) fun x39 => fX6_bestRound_L34 v1 n v4 x37 x39 m36)) else gCl (fX6_credits 6082 258 m25) fun m41 x42 => (if v3 ≤ x42 then (if (0 : Int32) = 0 then (if (0 : Int32) = 0 then gLt (v4 + 1) fun x44 => fX6_bestRound_L34 v1 n v2 v3 x44 m41 else gCl (fX6_credits 6082 258 m41) fun m46 x47 => gLt (v4 + 1) fun x49 => fX6_bestRound_L34 v1 n v2 x47 x49 m46) else (if (0 : Int32) = 0 then gLt (v4 + 1) fun x50 => fX6_bestRound_L34 v1 n v4 v3 x50 m41 else gCl (fX6_credits 6082 258 m41) fun m52 x53 => gLt (v4 + 1) fun x55 => fX6_bestRound_L34 v1 n v4 x53 x55 m52)) else (if (1 : Int32) = 0 then (if (1 : Int32) = 0 then gLt (v4 + 1) fun x56 => fX6_bestRound_L34 v1 n v2 v3 x56 m41 else gCl (fX6_credits 6082 258 m41) fun m58 x59 => gLt (v4 + 1) fun x61 => fX6_bestRound_L34 v1 n v2 x59 x61 m58) else (if (1 : Int32) = 0 then gLt (v4 + 1) fun x62 => fX6_bestRound_L34 v1 n v4 v3 x62 m41 else gCl (fX6_credits 6082 258 m41) fun m64 x65 => gLt (v4 + 1) fun x67 => fX6_bestRound_L34 v1 n v4 x65 x67 m64))))))
def fX6_bestRound (p1 : Int32) (m : gM) : Option (gM × Int32) := gCl (fX6_in (p1.toInt64) 1 30 m) fun m1 x2 => (if x2 = 0 then gCl (fX6_refused 1 m1) fun m4 x5 => (if x5 = 0 then fX6_bestRound_L34 p1 gFU (-1) 0 123 m4 else some (m4, 0)) else gCl (fX6_refused 0 m1) fun m136 x137 => (if x137 = 0 then fX6_bestRound_L34 p1 gFU (-1) 0 123 m136 else some (m136, 0)))
abbrev rmX6_bestRound : Room := { frames := 7, cells := 0, slots := 0, locals := 162 }
set_option maxHeartbeats 4000000 in
set_option maxRecDepth 100000 in
theorem tX6_bestRound (l : Launch) (G : gX) (u : gU) (hF : gFull u) (p1 : Int32) (m : gM) (o : gM × Int32) (h : fX6_bestRound p1 m = some o)  : gMet l G u yX6_bestRound (.code yX6_bestRound cX6_bestRound 6 (some .int)) rmX6_bestRound [.ref 5693, .int p1] m o.1 (some (.int o.2)) := by
  refine gMet_of (own := RX6) (k := 4) (by decide) rfl ⟨rfl, rfl⟩ (Nat.le_of_ble_eq_true rfl) [some (.ref 5693), some (.int p1), none, none, none, none] rfl (fun Y hG hu hnL hLn hRm he => ?_)
  subst hG hu hLn
  unfold fX6_bestRound at h
  refine r_aload_n (pc := 0) dX6_bestRound_0 rfl rfl ?_
  refine r_iload_n (pc := 1) dX6_bestRound_1 rfl rfl ?_
  refine r_i2l (pc := 2) dX6_bestRound_2 ?_
  refine r_lconst (pc := 3) (v := 1) dX6_bestRound_3 (by decide) ?_
  refine r_ldc2 (pc := 4) (v := 30) dX6_bestRound_4 cX6_49 ?_
  obtain ⟨m1, x2, q3, h⟩ := gCl_some h
  refine r_callS (pc := 7) [.long _, .long _, .long _] (tX6_in _ _ _ hF _ _ _ _ _ q3) ⟨rfl, rfl⟩ cd_X6_in wX6_37 nm_X6_in rfl (by rw [hRm]; decide) rfl (Nat.le_of_ble_eq_true rfl) dX6_bestRound_7 ?_
  refine r_if_eq (pc := 10) (tgt := 17) dX6_bestRound_10 (by decide) h (fun h => ?_) (fun h => ?_)
  · refine r_iconst (pc := 17) (v := 1) dX6_bestRound_17 (by decide) ?_
    obtain ⟨m4, x5, q6, h⟩ := gCl_some h
    refine r_callV (kd := 5) (pc := 18) [.int _] (tX6_refused _ _ _ hF _ _ _ q6) ⟨rfl, rfl⟩ cd_X6_refused wX6_108 nm_X6_refused rfl (by rw [hRm]; decide) rfl (Nat.le_of_ble_eq_true rfl) rfl (by decide) (gO5 hF) dX6_bestRound_18 ?_
    refine r_if_eq (pc := 21) (tgt := 26) dX6_bestRound_21 (by decide) h (fun h => ?_) (fun h => ?_)
    · refine r_iconst (pc := 26) (v := (-1)) dX6_bestRound_26 (by decide) ?_
      refine r_istore_n (pc := 27) dX6_bestRound_27 rfl (by rw [hnL]; decide) rfl ?_
      refine r_iconst (pc := 28) (v := 0) dX6_bestRound_28 (by decide) ?_
      refine r_istore_n (pc := 29) dX6_bestRound_29 rfl (by rw [hnL]; decide) rfl ?_
      refine r_bipush (pc := 30) (v := 123) dX6_bestRound_30 (by decide) ?_
      refine r_istore (pc := 32) dX6_bestRound_32 (by rw [hnL]; decide) rfl ?_
      have L70 : ∀ (n68 : Nat) (v71 : Int32) (v72 : Int32) (v73 : Int32) (m74 : gM), fX6_bestRound_L34 p1 n68 v71 v72 v73 m74 = some o → AW Y cX6_bestRound RX6 34 [some (.ref 5693), some (.int p1), some (.int v71), some (.int v72), some (.int v73), none] [] m74 := by
        intro n68
        induction n68 with
        | zero =>
          intro v71 v72 v73 m74 h
          exact absurd h (by simp [fX6_bestRound_L34])
        | succ n68 ih69 =>
          intro v71 v72 v73 m74 h
          rw [fX6_bestRound_L34] at h
          refine r_iload (pc := 34) dX6_bestRound_34 rfl ?_
          refine r_sipush (pc := 36) (v := 3210) dX6_bestRound_36 (by decide) ?_
          refine r_icmp_gt (pc := 39) (tgt := 185) dX6_bestRound_39 (by decide) h (fun h => ?_) (fun h => ?_)
          · refine r_iload_n (pc := 185) dX6_bestRound_185 rfl rfl ?_
            exact r_iretH dX6_bestRound_186 h he
          · refine r_iload (pc := 42) dX6_bestRound_42 rfl ?_
            obtain ⟨m75, x76, q77, h⟩ := gCl_some h
            refine r_callS (pc := 44) [.int _] (tX6_isOrder _ _ _ hF _ _ _ q77) ⟨rfl, rfl⟩ cd_X6_isOrder wX6_230 nm_X6_isOrder rfl (by rw [hRm]; decide) rfl (Nat.le_of_ble_eq_true rfl) dX6_bestRound_44 ?_
            refine r_if_eq (pc := 47) (tgt := 179) dX6_bestRound_47 (by decide) h (fun h => ?_) (fun h => ?_)
            · refine r_iinc (pc := 179) (d := 1) dX6_bestRound_179 rfl (by decide) (by rw [hnL]; decide) h (fun x78 h => ?_)
              refine r_goto (pc := 182) (tgt := 34) dX6_bestRound_182 (by decide) ?_
              exact r_mask [true, true, true, true, true, false] rfl (ih69 _ _ _ _ h)
            · refine r_aload_n (pc := 50) dX6_bestRound_50 rfl rfl ?_
              refine fX6_13 (pc := 51) hF dX6_bestRound_51 (fun b79 => ?_)
              refine r_iconst (pc := 54) (v := 0) dX6_bestRound_54 (by decide) ?_
              refine r_aload_n (pc := 55) dX6_bestRound_55 rfl rfl ?_
              refine fX6_16 (pc := 56) hF dX6_bestRound_56 (fun b80 => ?_)
              refine r_iconst (pc := 59) (v := 0) dX6_bestRound_59 (by decide) ?_
              obtain ⟨m81, q83, h⟩ := gCv_some h
              refine r_callS (pc := 60) [.ref _, .int _, .ref _, .int _] (tX6_copyState _ _ _ hF _ _ _ _ _ _ _ _ q83 b79 b80) ⟨rfl, rfl⟩ cd_X6_copyState wX6_183 nm_X6_copyState rfl (by rw [hRm]; decide) rfl (Nat.le_of_ble_eq_true rfl) dX6_bestRound_60 ?_
              refine r_aload_n (pc := 63) dX6_bestRound_63 rfl rfl ?_
              refine fX6_16 (pc := 64) hF dX6_bestRound_64 (fun b84 => ?_)
              refine r_bipush (pc := 67) (v := 16) dX6_bestRound_67 (by decide) ?_
              refine r_iload (pc := 69) dX6_bestRound_69 rfl ?_
              refine r_sipush (pc := 71) (v := 1000) dX6_bestRound_71 (by decide) ?_
              refine r_idivc (pc := 74) dX6_bestRound_74 (by decide) ?_
              refine r_iast (pc := 75) dX6_bestRound_75 b84 h (fun m85 h => ?_)
              refine r_aload_n (pc := 76) dX6_bestRound_76 rfl rfl ?_
              refine fX6_16 (pc := 77) hF dX6_bestRound_77 (fun b86 => ?_)
              refine r_bipush (pc := 80) (v := 17) dX6_bestRound_80 (by decide) ?_
              refine r_iload (pc := 82) dX6_bestRound_82 rfl ?_
              refine r_bipush (pc := 84) (v := 100) dX6_bestRound_84 (by decide) ?_
              refine r_idivc (pc := 86) dX6_bestRound_86 (by decide) ?_
              refine r_bipush (pc := 87) (v := 10) dX6_bestRound_87 (by decide) ?_
              refine r_iremc (pc := 89) dX6_bestRound_89 (by decide) ?_
              refine r_iast (pc := 90) dX6_bestRound_90 b86 h (fun m87 h => ?_)
              refine r_aload_n (pc := 91) dX6_bestRound_91 rfl rfl ?_
              refine fX6_16 (pc := 92) hF dX6_bestRound_92 (fun b88 => ?_)
              refine r_bipush (pc := 95) (v := 18) dX6_bestRound_95 (by decide) ?_
              refine r_iload (pc := 97) dX6_bestRound_97 rfl ?_
              refine r_bipush (pc := 99) (v := 10) dX6_bestRound_99 (by decide) ?_
              refine r_idivc (pc := 101) dX6_bestRound_101 (by decide) ?_
              refine r_bipush (pc := 102) (v := 10) dX6_bestRound_102 (by decide) ?_
              refine r_iremc (pc := 104) dX6_bestRound_104 (by decide) ?_
              refine r_iast (pc := 105) dX6_bestRound_105 b88 h (fun m89 h => ?_)
              refine r_aload_n (pc := 106) dX6_bestRound_106 rfl rfl ?_
              refine fX6_16 (pc := 107) hF dX6_bestRound_107 (fun b90 => ?_)
              refine r_bipush (pc := 110) (v := 19) dX6_bestRound_110 (by decide) ?_
              refine r_iload (pc := 112) dX6_bestRound_112 rfl ?_
              refine r_bipush (pc := 114) (v := 10) dX6_bestRound_114 (by decide) ?_
              refine r_iremc (pc := 116) dX6_bestRound_116 (by decide) ?_
              refine r_iast (pc := 117) dX6_bestRound_117 b90 h (fun m91 h => ?_)
              refine r_aload_n (pc := 118) dX6_bestRound_118 rfl rfl ?_
              refine fX6_16 (pc := 119) hF dX6_bestRound_119 (fun b92 => ?_)
              refine r_iload_n (pc := 122) dX6_bestRound_122 rfl rfl ?_
              obtain ⟨m93, x94, q95, h⟩ := gCl_some h
              refine r_callS (pc := 123) [.ref _, .int _] (tX6_daysOn _ _ _ hF _ _ _ _ _ q95 b92) ⟨rfl, rfl⟩ cd_X6_daysOn wX6_173 nm_X6_daysOn rfl (by rw [hRm]; decide) rfl (Nat.le_of_ble_eq_true rfl) dX6_bestRound_123 ?_
              refine r_pop (pc := 126) dX6_bestRound_126 rfl ?_
              refine r_iload_n (pc := 127) dX6_bestRound_127 rfl rfl ?_
              refine r_iconst (pc := 128) (v := (-1)) dX6_bestRound_128 (by decide) ?_
              refine r_icmp_eq (pc := 129) (tgt := 143) dX6_bestRound_129 (by decide) h (fun h => ?_) (fun h => ?_)
              · refine r_iconst (pc := 143) (v := 1) dX6_bestRound_143 (by decide) ?_
                refine r_goto (pc := 144) (tgt := 148) dX6_bestRound_144 (by decide) ?_
                refine r_istore (pc := 148) dX6_bestRound_148 (by rw [hnL]; decide) rfl ?_
                refine r_iload (pc := 150) dX6_bestRound_150 rfl ?_
                refine r_if_eq (pc := 152) (tgt := 160) dX6_bestRound_152 (by decide) h (fun h => ?_) (fun h => ?_)
                · refine r_iload_n (pc := 160) dX6_bestRound_160 rfl rfl ?_
                  refine r_istore_n (pc := 161) dX6_bestRound_161 rfl (by rw [hnL]; decide) rfl ?_
                  refine r_iload (pc := 162) dX6_bestRound_162 rfl ?_
                  refine r_if_eq (pc := 164) (tgt := 177) dX6_bestRound_164 (by decide) h (fun h => ?_) (fun h => ?_)
                  · refine r_iload_n (pc := 177) dX6_bestRound_177 rfl rfl ?_
                    refine r_istore_n (pc := 178) dX6_bestRound_178 rfl (by rw [hnL]; decide) rfl ?_
                    refine r_iinc (pc := 179) (d := 1) dX6_bestRound_179 rfl (by decide) (by rw [hnL]; decide) h (fun x96 h => ?_)
                    refine r_goto (pc := 182) (tgt := 34) dX6_bestRound_182 (by decide) ?_
                    exact r_mask [true, true, true, true, true, false] rfl (ih69 _ _ _ _ h)
                  · refine r_aload_n (pc := 167) dX6_bestRound_167 rfl rfl ?_
                    refine fX6_16 (pc := 168) hF dX6_bestRound_168 (fun b97 => ?_)
                    obtain ⟨m98, x99, q100, h⟩ := gCl_some h
                    refine r_callS (pc := 171) [.ref _] (tX6_credits _ _ _ hF _ _ _ _ q100 b97) ⟨rfl, rfl⟩ cd_X6_credits wX6_192 nm_X6_credits rfl (by rw [hRm]; decide) rfl (Nat.le_of_ble_eq_true rfl) dX6_bestRound_171 ?_
                    refine r_goto (pc := 174) (tgt := 178) dX6_bestRound_174 (by decide) ?_
                    refine r_istore_n (pc := 178) dX6_bestRound_178 rfl (by rw [hnL]; decide) rfl ?_
                    refine r_iinc (pc := 179) (d := 1) dX6_bestRound_179 rfl (by decide) (by rw [hnL]; decide) h (fun x101 h => ?_)
                    refine r_goto (pc := 182) (tgt := 34) dX6_bestRound_182 (by decide) ?_
                    exact r_mask [true, true, true, true, true, false] rfl (ih69 _ _ _ _ h)
                · refine r_iload (pc := 155) dX6_bestRound_155 rfl ?_
                  refine r_goto (pc := 157) (tgt := 161) dX6_bestRound_157 (by decide) ?_
                  refine r_istore_n (pc := 161) dX6_bestRound_161 rfl (by rw [hnL]; decide) rfl ?_
                  refine r_iload (pc := 162) dX6_bestRound_162 rfl ?_
                  refine r_if_eq (pc := 164) (tgt := 177) dX6_bestRound_164 (by decide) h (fun h => ?_) (fun h => ?_)
                  · refine r_iload_n (pc := 177) dX6_bestRound_177 rfl rfl ?_
                    refine r_istore_n (pc := 178) dX6_bestRound_178 rfl (by rw [hnL]; decide) rfl ?_
                    refine r_iinc (pc := 179) (d := 1) dX6_bestRound_179 rfl (by decide) (by rw [hnL]; decide) h (fun x102 h => ?_)
                    refine r_goto (pc := 182) (tgt := 34) dX6_bestRound_182 (by decide) ?_
                    exact r_mask [true, true, true, true, true, false] rfl (ih69 _ _ _ _ h)
                  · refine r_aload_n (pc := 167) dX6_bestRound_167 rfl rfl ?_
                    refine fX6_16 (pc := 168) hF dX6_bestRound_168 (fun b103 => ?_)
                    obtain ⟨m104, x105, q106, h⟩ := gCl_some h
                    refine r_callS (pc := 171) [.ref _] (tX6_credits _ _ _ hF _ _ _ _ q106 b103) ⟨rfl, rfl⟩ cd_X6_credits wX6_192 nm_X6_credits rfl (by rw [hRm]; decide) rfl (Nat.le_of_ble_eq_true rfl) dX6_bestRound_171 ?_
                    refine r_goto (pc := 174) (tgt := 178) dX6_bestRound_174 (by decide) ?_
                    refine r_istore_n (pc := 178) dX6_bestRound_178 rfl (by rw [hnL]; decide) rfl ?_
                    refine r_iinc (pc := 179) (d := 1) dX6_bestRound_179 rfl (by decide) (by rw [hnL]; decide) h (fun x107 h => ?_)
                    refine r_goto (pc := 182) (tgt := 34) dX6_bestRound_182 (by decide) ?_
                    exact r_mask [true, true, true, true, true, false] rfl (ih69 _ _ _ _ h)
              · refine r_aload_n (pc := 132) dX6_bestRound_132 rfl rfl ?_
                refine fX6_16 (pc := 133) hF dX6_bestRound_133 (fun b108 => ?_)
                obtain ⟨m109, x110, q111, h⟩ := gCl_some h
                refine r_callS (pc := 136) [.ref _] (tX6_credits _ _ _ hF _ _ _ _ q111 b108) ⟨rfl, rfl⟩ cd_X6_credits wX6_192 nm_X6_credits rfl (by rw [hRm]; decide) rfl (Nat.le_of_ble_eq_true rfl) dX6_bestRound_136 ?_
                refine r_iload_n (pc := 139) dX6_bestRound_139 rfl rfl ?_
                refine r_icmp_ge (pc := 140) (tgt := 147) dX6_bestRound_140 (by decide) h (fun h => ?_) (fun h => ?_)
                · refine r_iconst (pc := 147) (v := 0) dX6_bestRound_147 (by decide) ?_
                  refine r_istore (pc := 148) dX6_bestRound_148 (by rw [hnL]; decide) rfl ?_
                  refine r_iload (pc := 150) dX6_bestRound_150 rfl ?_
                  refine r_if_eq (pc := 152) (tgt := 160) dX6_bestRound_152 (by decide) h (fun h => ?_) (fun h => ?_)
                  · refine r_iload_n (pc := 160) dX6_bestRound_160 rfl rfl ?_
                    refine r_istore_n (pc := 161) dX6_bestRound_161 rfl (by rw [hnL]; decide) rfl ?_
                    refine r_iload (pc := 162) dX6_bestRound_162 rfl ?_
                    refine r_if_eq (pc := 164) (tgt := 177) dX6_bestRound_164 (by decide) h (fun h => ?_) (fun h => ?_)
                    · refine r_iload_n (pc := 177) dX6_bestRound_177 rfl rfl ?_
                      refine r_istore_n (pc := 178) dX6_bestRound_178 rfl (by rw [hnL]; decide) rfl ?_
                      refine r_iinc (pc := 179) (d := 1) dX6_bestRound_179 rfl (by decide) (by rw [hnL]; decide) h (fun x112 h => ?_)
                      refine r_goto (pc := 182) (tgt := 34) dX6_bestRound_182 (by decide) ?_
                      exact r_mask [true, true, true, true, true, false] rfl (ih69 _ _ _ _ h)
                    · refine r_aload_n (pc := 167) dX6_bestRound_167 rfl rfl ?_
                      refine fX6_16 (pc := 168) hF dX6_bestRound_168 (fun b113 => ?_)
                      obtain ⟨m114, x115, q116, h⟩ := gCl_some h
                      refine r_callS (pc := 171) [.ref _] (tX6_credits _ _ _ hF _ _ _ _ q116 b113) ⟨rfl, rfl⟩ cd_X6_credits wX6_192 nm_X6_credits rfl (by rw [hRm]; decide) rfl (Nat.le_of_ble_eq_true rfl) dX6_bestRound_171 ?_
                      refine r_goto (pc := 174) (tgt := 178) dX6_bestRound_174 (by decide) ?_
                      refine r_istore_n (pc := 178) dX6_bestRound_178 rfl (by rw [hnL]; decide) rfl ?_
                      refine r_iinc (pc := 179) (d := 1) dX6_bestRound_179 rfl (by decide) (by rw [hnL]; decide) h (fun x117 h => ?_)
                      refine r_goto (pc := 182) (tgt := 34) dX6_bestRound_182 (by decide) ?_
                      exact r_mask [true, true, true, true, true, false] rfl (ih69 _ _ _ _ h)
                  · refine r_iload (pc := 155) dX6_bestRound_155 rfl ?_
                    refine r_goto (pc := 157) (tgt := 161) dX6_bestRound_157 (by decide) ?_
                    refine r_istore_n (pc := 161) dX6_bestRound_161 rfl (by rw [hnL]; decide) rfl ?_
                    refine r_iload (pc := 162) dX6_bestRound_162 rfl ?_
                    refine r_if_eq (pc := 164) (tgt := 177) dX6_bestRound_164 (by decide) h (fun h => ?_) (fun h => ?_)
                    · refine r_iload_n (pc := 177) dX6_bestRound_177 rfl rfl ?_
                      refine r_istore_n (pc := 178) dX6_bestRound_178 rfl (by rw [hnL]; decide) rfl ?_
                      refine r_iinc (pc := 179) (d := 1) dX6_bestRound_179 rfl (by decide) (by rw [hnL]; decide) h (fun x118 h => ?_)
                      refine r_goto (pc := 182) (tgt := 34) dX6_bestRound_182 (by decide) ?_
                      exact r_mask [true, true, true, true, true, false] rfl (ih69 _ _ _ _ h)
                    · refine r_aload_n (pc := 167) dX6_bestRound_167 rfl rfl ?_
                      refine fX6_16 (pc := 168) hF dX6_bestRound_168 (fun b119 => ?_)
                      obtain ⟨m120, x121, q122, h⟩ := gCl_some h
                      refine r_callS (pc := 171) [.ref _] (tX6_credits _ _ _ hF _ _ _ _ q122 b119) ⟨rfl, rfl⟩ cd_X6_credits wX6_192 nm_X6_credits rfl (by rw [hRm]; decide) rfl (Nat.le_of_ble_eq_true rfl) dX6_bestRound_171 ?_
                      refine r_goto (pc := 174) (tgt := 178) dX6_bestRound_174 (by decide) ?_
                      refine r_istore_n (pc := 178) dX6_bestRound_178 rfl (by rw [hnL]; decide) rfl ?_
                      refine r_iinc (pc := 179) (d := 1) dX6_bestRound_179 rfl (by decide) (by rw [hnL]; decide) h (fun x123 h => ?_)
                      refine r_goto (pc := 182) (tgt := 34) dX6_bestRound_182 (by decide) ?_
                      exact r_mask [true, true, true, true, true, false] rfl (ih69 _ _ _ _ h)
                · refine r_iconst (pc := 143) (v := 1) dX6_bestRound_143 (by decide) ?_
                  refine r_goto (pc := 144) (tgt := 148) dX6_bestRound_144 (by decide) ?_
                  refine r_istore (pc := 148) dX6_bestRound_148 (by rw [hnL]; decide) rfl ?_
                  refine r_iload (pc := 150) dX6_bestRound_150 rfl ?_
                  refine r_if_eq (pc := 152) (tgt := 160) dX6_bestRound_152 (by decide) h (fun h => ?_) (fun h => ?_)
                  · refine r_iload_n (pc := 160) dX6_bestRound_160 rfl rfl ?_
                    refine r_istore_n (pc := 161) dX6_bestRound_161 rfl (by rw [hnL]; decide) rfl ?_
                    refine r_iload (pc := 162) dX6_bestRound_162 rfl ?_
                    refine r_if_eq (pc := 164) (tgt := 177) dX6_bestRound_164 (by decide) h (fun h => ?_) (fun h => ?_)
                    · refine r_iload_n (pc := 177) dX6_bestRound_177 rfl rfl ?_
                      refine r_istore_n (pc := 178) dX6_bestRound_178 rfl (by rw [hnL]; decide) rfl ?_
                      refine r_iinc (pc := 179) (d := 1) dX6_bestRound_179 rfl (by decide) (by rw [hnL]; decide) h (fun x124 h => ?_)
                      refine r_goto (pc := 182) (tgt := 34) dX6_bestRound_182 (by decide) ?_
                      exact r_mask [true, true, true, true, true, false] rfl (ih69 _ _ _ _ h)
                    · refine r_aload_n (pc := 167) dX6_bestRound_167 rfl rfl ?_
                      refine fX6_16 (pc := 168) hF dX6_bestRound_168 (fun b125 => ?_)
                      obtain ⟨m126, x127, q128, h⟩ := gCl_some h
                      refine r_callS (pc := 171) [.ref _] (tX6_credits _ _ _ hF _ _ _ _ q128 b125) ⟨rfl, rfl⟩ cd_X6_credits wX6_192 nm_X6_credits rfl (by rw [hRm]; decide) rfl (Nat.le_of_ble_eq_true rfl) dX6_bestRound_171 ?_
                      refine r_goto (pc := 174) (tgt := 178) dX6_bestRound_174 (by decide) ?_
                      refine r_istore_n (pc := 178) dX6_bestRound_178 rfl (by rw [hnL]; decide) rfl ?_
                      refine r_iinc (pc := 179) (d := 1) dX6_bestRound_179 rfl (by decide) (by rw [hnL]; decide) h (fun x129 h => ?_)
                      refine r_goto (pc := 182) (tgt := 34) dX6_bestRound_182 (by decide) ?_
                      exact r_mask [true, true, true, true, true, false] rfl (ih69 _ _ _ _ h)
                  · refine r_iload (pc := 155) dX6_bestRound_155 rfl ?_
                    refine r_goto (pc := 157) (tgt := 161) dX6_bestRound_157 (by decide) ?_
                    refine r_istore_n (pc := 161) dX6_bestRound_161 rfl (by rw [hnL]; decide) rfl ?_
                    refine r_iload (pc := 162) dX6_bestRound_162 rfl ?_
                    refine r_if_eq (pc := 164) (tgt := 177) dX6_bestRound_164 (by decide) h (fun h => ?_) (fun h => ?_)
                    · refine r_iload_n (pc := 177) dX6_bestRound_177 rfl rfl ?_
                      refine r_istore_n (pc := 178) dX6_bestRound_178 rfl (by rw [hnL]; decide) rfl ?_
                      refine r_iinc (pc := 179) (d := 1) dX6_bestRound_179 rfl (by decide) (by rw [hnL]; decide) h (fun x130 h => ?_)
                      refine r_goto (pc := 182) (tgt := 34) dX6_bestRound_182 (by decide) ?_
                      exact r_mask [true, true, true, true, true, false] rfl (ih69 _ _ _ _ h)
                    · refine r_aload_n (pc := 167) dX6_bestRound_167 rfl rfl ?_
                      refine fX6_16 (pc := 168) hF dX6_bestRound_168 (fun b131 => ?_)
                      obtain ⟨m132, x133, q134, h⟩ := gCl_some h
                      refine r_callS (pc := 171) [.ref _] (tX6_credits _ _ _ hF _ _ _ _ q134 b131) ⟨rfl, rfl⟩ cd_X6_credits wX6_192 nm_X6_credits rfl (by rw [hRm]; decide) rfl (Nat.le_of_ble_eq_true rfl) dX6_bestRound_171 ?_
                      refine r_goto (pc := 174) (tgt := 178) dX6_bestRound_174 (by decide) ?_
                      refine r_istore_n (pc := 178) dX6_bestRound_178 rfl (by rw [hnL]; decide) rfl ?_
                      refine r_iinc (pc := 179) (d := 1) dX6_bestRound_179 rfl (by decide) (by rw [hnL]; decide) h (fun x135 h => ?_)
                      refine r_goto (pc := 182) (tgt := 34) dX6_bestRound_182 (by decide) ?_
                      exact r_mask [true, true, true, true, true, false] rfl (ih69 _ _ _ _ h)
      exact r_mask [true, true, true, true, true, false] rfl (L70 _ _ _ _ _ h)
    · refine r_iconst (pc := 24) (v := 0) dX6_bestRound_24 (by decide) ?_
      exact r_iretH dX6_bestRound_25 h he
  · refine r_iconst (pc := 13) (v := 0) dX6_bestRound_13 (by decide) ?_
    refine r_goto (pc := 14) (tgt := 18) dX6_bestRound_14 (by decide) ?_
    obtain ⟨m136, x137, q138, h⟩ := gCl_some h
    refine r_callV (kd := 5) (pc := 18) [.int _] (tX6_refused _ _ _ hF _ _ _ q138) ⟨rfl, rfl⟩ cd_X6_refused wX6_108 nm_X6_refused rfl (by rw [hRm]; decide) rfl (Nat.le_of_ble_eq_true rfl) rfl (by decide) (gO5 hF) dX6_bestRound_18 ?_
    refine r_if_eq (pc := 21) (tgt := 26) dX6_bestRound_21 (by decide) h (fun h => ?_) (fun h => ?_)
    · refine r_iconst (pc := 26) (v := (-1)) dX6_bestRound_26 (by decide) ?_
      refine r_istore_n (pc := 27) dX6_bestRound_27 rfl (by rw [hnL]; decide) rfl ?_
      refine r_iconst (pc := 28) (v := 0) dX6_bestRound_28 (by decide) ?_
      refine r_istore_n (pc := 29) dX6_bestRound_29 rfl (by rw [hnL]; decide) rfl ?_
      refine r_bipush (pc := 30) (v := 123) dX6_bestRound_30 (by decide) ?_
      refine r_istore (pc := 32) dX6_bestRound_32 (by rw [hnL]; decide) rfl ?_
      have L141 : ∀ (n139 : Nat) (v142 : Int32) (v143 : Int32) (v144 : Int32) (m145 : gM), fX6_bestRound_L34 p1 n139 v142 v143 v144 m145 = some o → AW Y cX6_bestRound RX6 34 [some (.ref 5693), some (.int p1), some (.int v142), some (.int v143), some (.int v144), none] [] m145 := by
        intro n139
        induction n139 with
        | zero =>
          intro v142 v143 v144 m145 h
          exact absurd h (by simp [fX6_bestRound_L34])
        | succ n139 ih140 =>
          intro v142 v143 v144 m145 h
          rw [fX6_bestRound_L34] at h
          refine r_iload (pc := 34) dX6_bestRound_34 rfl ?_
          refine r_sipush (pc := 36) (v := 3210) dX6_bestRound_36 (by decide) ?_
          refine r_icmp_gt (pc := 39) (tgt := 185) dX6_bestRound_39 (by decide) h (fun h => ?_) (fun h => ?_)
          · refine r_iload_n (pc := 185) dX6_bestRound_185 rfl rfl ?_
            exact r_iretH dX6_bestRound_186 h he
          · refine r_iload (pc := 42) dX6_bestRound_42 rfl ?_
            obtain ⟨m146, x147, q148, h⟩ := gCl_some h
            refine r_callS (pc := 44) [.int _] (tX6_isOrder _ _ _ hF _ _ _ q148) ⟨rfl, rfl⟩ cd_X6_isOrder wX6_230 nm_X6_isOrder rfl (by rw [hRm]; decide) rfl (Nat.le_of_ble_eq_true rfl) dX6_bestRound_44 ?_
            refine r_if_eq (pc := 47) (tgt := 179) dX6_bestRound_47 (by decide) h (fun h => ?_) (fun h => ?_)
            · refine r_iinc (pc := 179) (d := 1) dX6_bestRound_179 rfl (by decide) (by rw [hnL]; decide) h (fun x149 h => ?_)
              refine r_goto (pc := 182) (tgt := 34) dX6_bestRound_182 (by decide) ?_
              exact r_mask [true, true, true, true, true, false] rfl (ih140 _ _ _ _ h)
            · refine r_aload_n (pc := 50) dX6_bestRound_50 rfl rfl ?_
              refine fX6_13 (pc := 51) hF dX6_bestRound_51 (fun b150 => ?_)
              refine r_iconst (pc := 54) (v := 0) dX6_bestRound_54 (by decide) ?_
              refine r_aload_n (pc := 55) dX6_bestRound_55 rfl rfl ?_
              refine fX6_16 (pc := 56) hF dX6_bestRound_56 (fun b151 => ?_)
              refine r_iconst (pc := 59) (v := 0) dX6_bestRound_59 (by decide) ?_
              obtain ⟨m152, q154, h⟩ := gCv_some h
              refine r_callS (pc := 60) [.ref _, .int _, .ref _, .int _] (tX6_copyState _ _ _ hF _ _ _ _ _ _ _ _ q154 b150 b151) ⟨rfl, rfl⟩ cd_X6_copyState wX6_183 nm_X6_copyState rfl (by rw [hRm]; decide) rfl (Nat.le_of_ble_eq_true rfl) dX6_bestRound_60 ?_
              refine r_aload_n (pc := 63) dX6_bestRound_63 rfl rfl ?_
              refine fX6_16 (pc := 64) hF dX6_bestRound_64 (fun b155 => ?_)
              refine r_bipush (pc := 67) (v := 16) dX6_bestRound_67 (by decide) ?_
              refine r_iload (pc := 69) dX6_bestRound_69 rfl ?_
              refine r_sipush (pc := 71) (v := 1000) dX6_bestRound_71 (by decide) ?_
              refine r_idivc (pc := 74) dX6_bestRound_74 (by decide) ?_
              refine r_iast (pc := 75) dX6_bestRound_75 b155 h (fun m156 h => ?_)
              refine r_aload_n (pc := 76) dX6_bestRound_76 rfl rfl ?_
              refine fX6_16 (pc := 77) hF dX6_bestRound_77 (fun b157 => ?_)
              refine r_bipush (pc := 80) (v := 17) dX6_bestRound_80 (by decide) ?_
              refine r_iload (pc := 82) dX6_bestRound_82 rfl ?_
              refine r_bipush (pc := 84) (v := 100) dX6_bestRound_84 (by decide) ?_
              refine r_idivc (pc := 86) dX6_bestRound_86 (by decide) ?_
              refine r_bipush (pc := 87) (v := 10) dX6_bestRound_87 (by decide) ?_
              refine r_iremc (pc := 89) dX6_bestRound_89 (by decide) ?_
              refine r_iast (pc := 90) dX6_bestRound_90 b157 h (fun m158 h => ?_)
              refine r_aload_n (pc := 91) dX6_bestRound_91 rfl rfl ?_
              refine fX6_16 (pc := 92) hF dX6_bestRound_92 (fun b159 => ?_)
              refine r_bipush (pc := 95) (v := 18) dX6_bestRound_95 (by decide) ?_
              refine r_iload (pc := 97) dX6_bestRound_97 rfl ?_
              refine r_bipush (pc := 99) (v := 10) dX6_bestRound_99 (by decide) ?_
              refine r_idivc (pc := 101) dX6_bestRound_101 (by decide) ?_
              refine r_bipush (pc := 102) (v := 10) dX6_bestRound_102 (by decide) ?_
              refine r_iremc (pc := 104) dX6_bestRound_104 (by decide) ?_
              refine r_iast (pc := 105) dX6_bestRound_105 b159 h (fun m160 h => ?_)
              refine r_aload_n (pc := 106) dX6_bestRound_106 rfl rfl ?_
              refine fX6_16 (pc := 107) hF dX6_bestRound_107 (fun b161 => ?_)
              refine r_bipush (pc := 110) (v := 19) dX6_bestRound_110 (by decide) ?_
              refine r_iload (pc := 112) dX6_bestRound_112 rfl ?_
              refine r_bipush (pc := 114) (v := 10) dX6_bestRound_114 (by decide) ?_
              refine r_iremc (pc := 116) dX6_bestRound_116 (by decide) ?_
              refine r_iast (pc := 117) dX6_bestRound_117 b161 h (fun m162 h => ?_)
              refine r_aload_n (pc := 118) dX6_bestRound_118 rfl rfl ?_
              refine fX6_16 (pc := 119) hF dX6_bestRound_119 (fun b163 => ?_)
              refine r_iload_n (pc := 122) dX6_bestRound_122 rfl rfl ?_
              obtain ⟨m164, x165, q166, h⟩ := gCl_some h
              refine r_callS (pc := 123) [.ref _, .int _] (tX6_daysOn _ _ _ hF _ _ _ _ _ q166 b163) ⟨rfl, rfl⟩ cd_X6_daysOn wX6_173 nm_X6_daysOn rfl (by rw [hRm]; decide) rfl (Nat.le_of_ble_eq_true rfl) dX6_bestRound_123 ?_
              refine r_pop (pc := 126) dX6_bestRound_126 rfl ?_
              refine r_iload_n (pc := 127) dX6_bestRound_127 rfl rfl ?_
              refine r_iconst (pc := 128) (v := (-1)) dX6_bestRound_128 (by decide) ?_
              refine r_icmp_eq (pc := 129) (tgt := 143) dX6_bestRound_129 (by decide) h (fun h => ?_) (fun h => ?_)
              · refine r_iconst (pc := 143) (v := 1) dX6_bestRound_143 (by decide) ?_
                refine r_goto (pc := 144) (tgt := 148) dX6_bestRound_144 (by decide) ?_
                refine r_istore (pc := 148) dX6_bestRound_148 (by rw [hnL]; decide) rfl ?_
                refine r_iload (pc := 150) dX6_bestRound_150 rfl ?_
                refine r_if_eq (pc := 152) (tgt := 160) dX6_bestRound_152 (by decide) h (fun h => ?_) (fun h => ?_)
                · refine r_iload_n (pc := 160) dX6_bestRound_160 rfl rfl ?_
                  refine r_istore_n (pc := 161) dX6_bestRound_161 rfl (by rw [hnL]; decide) rfl ?_
                  refine r_iload (pc := 162) dX6_bestRound_162 rfl ?_
                  refine r_if_eq (pc := 164) (tgt := 177) dX6_bestRound_164 (by decide) h (fun h => ?_) (fun h => ?_)
                  · refine r_iload_n (pc := 177) dX6_bestRound_177 rfl rfl ?_
                    refine r_istore_n (pc := 178) dX6_bestRound_178 rfl (by rw [hnL]; decide) rfl ?_
                    refine r_iinc (pc := 179) (d := 1) dX6_bestRound_179 rfl (by decide) (by rw [hnL]; decide) h (fun x167 h => ?_)
                    refine r_goto (pc := 182) (tgt := 34) dX6_bestRound_182 (by decide) ?_
                    exact r_mask [true, true, true, true, true, false] rfl (ih140 _ _ _ _ h)
                  · refine r_aload_n (pc := 167) dX6_bestRound_167 rfl rfl ?_
                    refine fX6_16 (pc := 168) hF dX6_bestRound_168 (fun b168 => ?_)
                    obtain ⟨m169, x170, q171, h⟩ := gCl_some h
                    refine r_callS (pc := 171) [.ref _] (tX6_credits _ _ _ hF _ _ _ _ q171 b168) ⟨rfl, rfl⟩ cd_X6_credits wX6_192 nm_X6_credits rfl (by rw [hRm]; decide) rfl (Nat.le_of_ble_eq_true rfl) dX6_bestRound_171 ?_
                    refine r_goto (pc := 174) (tgt := 178) dX6_bestRound_174 (by decide) ?_
                    refine r_istore_n (pc := 178) dX6_bestRound_178 rfl (by rw [hnL]; decide) rfl ?_
                    refine r_iinc (pc := 179) (d := 1) dX6_bestRound_179 rfl (by decide) (by rw [hnL]; decide) h (fun x172 h => ?_)
                    refine r_goto (pc := 182) (tgt := 34) dX6_bestRound_182 (by decide) ?_
                    exact r_mask [true, true, true, true, true, false] rfl (ih140 _ _ _ _ h)
                · refine r_iload (pc := 155) dX6_bestRound_155 rfl ?_
                  refine r_goto (pc := 157) (tgt := 161) dX6_bestRound_157 (by decide) ?_
                  refine r_istore_n (pc := 161) dX6_bestRound_161 rfl (by rw [hnL]; decide) rfl ?_
                  refine r_iload (pc := 162) dX6_bestRound_162 rfl ?_
                  refine r_if_eq (pc := 164) (tgt := 177) dX6_bestRound_164 (by decide) h (fun h => ?_) (fun h => ?_)
                  · refine r_iload_n (pc := 177) dX6_bestRound_177 rfl rfl ?_
                    refine r_istore_n (pc := 178) dX6_bestRound_178 rfl (by rw [hnL]; decide) rfl ?_
                    refine r_iinc (pc := 179) (d := 1) dX6_bestRound_179 rfl (by decide) (by rw [hnL]; decide) h (fun x173 h => ?_)
                    refine r_goto (pc := 182) (tgt := 34) dX6_bestRound_182 (by decide) ?_
                    exact r_mask [true, true, true, true, true, false] rfl (ih140 _ _ _ _ h)
                  · refine r_aload_n (pc := 167) dX6_bestRound_167 rfl rfl ?_
                    refine fX6_16 (pc := 168) hF dX6_bestRound_168 (fun b174 => ?_)
                    obtain ⟨m175, x176, q177, h⟩ := gCl_some h
                    refine r_callS (pc := 171) [.ref _] (tX6_credits _ _ _ hF _ _ _ _ q177 b174) ⟨rfl, rfl⟩ cd_X6_credits wX6_192 nm_X6_credits rfl (by rw [hRm]; decide) rfl (Nat.le_of_ble_eq_true rfl) dX6_bestRound_171 ?_
                    refine r_goto (pc := 174) (tgt := 178) dX6_bestRound_174 (by decide) ?_
                    refine r_istore_n (pc := 178) dX6_bestRound_178 rfl (by rw [hnL]; decide) rfl ?_
                    refine r_iinc (pc := 179) (d := 1) dX6_bestRound_179 rfl (by decide) (by rw [hnL]; decide) h (fun x178 h => ?_)
                    refine r_goto (pc := 182) (tgt := 34) dX6_bestRound_182 (by decide) ?_
                    exact r_mask [true, true, true, true, true, false] rfl (ih140 _ _ _ _ h)
              · refine r_aload_n (pc := 132) dX6_bestRound_132 rfl rfl ?_
                refine fX6_16 (pc := 133) hF dX6_bestRound_133 (fun b179 => ?_)
                obtain ⟨m180, x181, q182, h⟩ := gCl_some h
                refine r_callS (pc := 136) [.ref _] (tX6_credits _ _ _ hF _ _ _ _ q182 b179) ⟨rfl, rfl⟩ cd_X6_credits wX6_192 nm_X6_credits rfl (by rw [hRm]; decide) rfl (Nat.le_of_ble_eq_true rfl) dX6_bestRound_136 ?_
                refine r_iload_n (pc := 139) dX6_bestRound_139 rfl rfl ?_
                refine r_icmp_ge (pc := 140) (tgt := 147) dX6_bestRound_140 (by decide) h (fun h => ?_) (fun h => ?_)
                · refine r_iconst (pc := 147) (v := 0) dX6_bestRound_147 (by decide) ?_
                  refine r_istore (pc := 148) dX6_bestRound_148 (by rw [hnL]; decide) rfl ?_
                  refine r_iload (pc := 150) dX6_bestRound_150 rfl ?_
                  refine r_if_eq (pc := 152) (tgt := 160) dX6_bestRound_152 (by decide) h (fun h => ?_) (fun h => ?_)
                  · refine r_iload_n (pc := 160) dX6_bestRound_160 rfl rfl ?_
                    refine r_istore_n (pc := 161) dX6_bestRound_161 rfl (by rw [hnL]; decide) rfl ?_
                    refine r_iload (pc := 162) dX6_bestRound_162 rfl ?_
                    refine r_if_eq (pc := 164) (tgt := 177) dX6_bestRound_164 (by decide) h (fun h => ?_) (fun h => ?_)
                    · refine r_iload_n (pc := 177) dX6_bestRound_177 rfl rfl ?_
                      refine r_istore_n (pc := 178) dX6_bestRound_178 rfl (by rw [hnL]; decide) rfl ?_
                      refine r_iinc (pc := 179) (d := 1) dX6_bestRound_179 rfl (by decide) (by rw [hnL]; decide) h (fun x183 h => ?_)
                      refine r_goto (pc := 182) (tgt := 34) dX6_bestRound_182 (by decide) ?_
                      exact r_mask [true, true, true, true, true, false] rfl (ih140 _ _ _ _ h)
                    · refine r_aload_n (pc := 167) dX6_bestRound_167 rfl rfl ?_
                      refine fX6_16 (pc := 168) hF dX6_bestRound_168 (fun b184 => ?_)
                      obtain ⟨m185, x186, q187, h⟩ := gCl_some h
                      refine r_callS (pc := 171) [.ref _] (tX6_credits _ _ _ hF _ _ _ _ q187 b184) ⟨rfl, rfl⟩ cd_X6_credits wX6_192 nm_X6_credits rfl (by rw [hRm]; decide) rfl (Nat.le_of_ble_eq_true rfl) dX6_bestRound_171 ?_
                      refine r_goto (pc := 174) (tgt := 178) dX6_bestRound_174 (by decide) ?_
                      refine r_istore_n (pc := 178) dX6_bestRound_178 rfl (by rw [hnL]; decide) rfl ?_
                      refine r_iinc (pc := 179) (d := 1) dX6_bestRound_179 rfl (by decide) (by rw [hnL]; decide) h (fun x188 h => ?_)
                      refine r_goto (pc := 182) (tgt := 34) dX6_bestRound_182 (by decide) ?_
                      exact r_mask [true, true, true, true, true, false] rfl (ih140 _ _ _ _ h)
                  · refine r_iload (pc := 155) dX6_bestRound_155 rfl ?_
                    refine r_goto (pc := 157) (tgt := 161) dX6_bestRound_157 (by decide) ?_
                    refine r_istore_n (pc := 161) dX6_bestRound_161 rfl (by rw [hnL]; decide) rfl ?_
                    refine r_iload (pc := 162) dX6_bestRound_162 rfl ?_
                    refine r_if_eq (pc := 164) (tgt := 177) dX6_bestRound_164 (by decide) h (fun h => ?_) (fun h => ?_)
                    · refine r_iload_n (pc := 177) dX6_bestRound_177 rfl rfl ?_
                      refine r_istore_n (pc := 178) dX6_bestRound_178 rfl (by rw [hnL]; decide) rfl ?_
                      refine r_iinc (pc := 179) (d := 1) dX6_bestRound_179 rfl (by decide) (by rw [hnL]; decide) h (fun x189 h => ?_)
                      refine r_goto (pc := 182) (tgt := 34) dX6_bestRound_182 (by decide) ?_
                      exact r_mask [true, true, true, true, true, false] rfl (ih140 _ _ _ _ h)
                    · refine r_aload_n (pc := 167) dX6_bestRound_167 rfl rfl ?_
                      refine fX6_16 (pc := 168) hF dX6_bestRound_168 (fun b190 => ?_)
                      obtain ⟨m191, x192, q193, h⟩ := gCl_some h
                      refine r_callS (pc := 171) [.ref _] (tX6_credits _ _ _ hF _ _ _ _ q193 b190) ⟨rfl, rfl⟩ cd_X6_credits wX6_192 nm_X6_credits rfl (by rw [hRm]; decide) rfl (Nat.le_of_ble_eq_true rfl) dX6_bestRound_171 ?_
                      refine r_goto (pc := 174) (tgt := 178) dX6_bestRound_174 (by decide) ?_
                      refine r_istore_n (pc := 178) dX6_bestRound_178 rfl (by rw [hnL]; decide) rfl ?_
                      refine r_iinc (pc := 179) (d := 1) dX6_bestRound_179 rfl (by decide) (by rw [hnL]; decide) h (fun x194 h => ?_)
                      refine r_goto (pc := 182) (tgt := 34) dX6_bestRound_182 (by decide) ?_
                      exact r_mask [true, true, true, true, true, false] rfl (ih140 _ _ _ _ h)
                · refine r_iconst (pc := 143) (v := 1) dX6_bestRound_143 (by decide) ?_
                  refine r_goto (pc := 144) (tgt := 148) dX6_bestRound_144 (by decide) ?_
                  refine r_istore (pc := 148) dX6_bestRound_148 (by rw [hnL]; decide) rfl ?_
                  refine r_iload (pc := 150) dX6_bestRound_150 rfl ?_
                  refine r_if_eq (pc := 152) (tgt := 160) dX6_bestRound_152 (by decide) h (fun h => ?_) (fun h => ?_)
                  · refine r_iload_n (pc := 160) dX6_bestRound_160 rfl rfl ?_
                    refine r_istore_n (pc := 161) dX6_bestRound_161 rfl (by rw [hnL]; decide) rfl ?_
                    refine r_iload (pc := 162) dX6_bestRound_162 rfl ?_
                    refine r_if_eq (pc := 164) (tgt := 177) dX6_bestRound_164 (by decide) h (fun h => ?_) (fun h => ?_)
                    · refine r_iload_n (pc := 177) dX6_bestRound_177 rfl rfl ?_
                      refine r_istore_n (pc := 178) dX6_bestRound_178 rfl (by rw [hnL]; decide) rfl ?_
                      refine r_iinc (pc := 179) (d := 1) dX6_bestRound_179 rfl (by decide) (by rw [hnL]; decide) h (fun x195 h => ?_)
                      refine r_goto (pc := 182) (tgt := 34) dX6_bestRound_182 (by decide) ?_
                      exact r_mask [true, true, true, true, true, false] rfl (ih140 _ _ _ _ h)
                    · refine r_aload_n (pc := 167) dX6_bestRound_167 rfl rfl ?_
                      refine fX6_16 (pc := 168) hF dX6_bestRound_168 (fun b196 => ?_)
                      obtain ⟨m197, x198, q199, h⟩ := gCl_some h
                      refine r_callS (pc := 171) [.ref _] (tX6_credits _ _ _ hF _ _ _ _ q199 b196) ⟨rfl, rfl⟩ cd_X6_credits wX6_192 nm_X6_credits rfl (by rw [hRm]; decide) rfl (Nat.le_of_ble_eq_true rfl) dX6_bestRound_171 ?_
                      refine r_goto (pc := 174) (tgt := 178) dX6_bestRound_174 (by decide) ?_
                      refine r_istore_n (pc := 178) dX6_bestRound_178 rfl (by rw [hnL]; decide) rfl ?_
                      refine r_iinc (pc := 179) (d := 1) dX6_bestRound_179 rfl (by decide) (by rw [hnL]; decide) h (fun x200 h => ?_)
                      refine r_goto (pc := 182) (tgt := 34) dX6_bestRound_182 (by decide) ?_
                      exact r_mask [true, true, true, true, true, false] rfl (ih140 _ _ _ _ h)
                  · refine r_iload (pc := 155) dX6_bestRound_155 rfl ?_
                    refine r_goto (pc := 157) (tgt := 161) dX6_bestRound_157 (by decide) ?_
                    refine r_istore_n (pc := 161) dX6_bestRound_161 rfl (by rw [hnL]; decide) rfl ?_
                    refine r_iload (pc := 162) dX6_bestRound_162 rfl ?_
                    refine r_if_eq (pc := 164) (tgt := 177) dX6_bestRound_164 (by decide) h (fun h => ?_) (fun h => ?_)
                    · refine r_iload_n (pc := 177) dX6_bestRound_177 rfl rfl ?_
                      refine r_istore_n (pc := 178) dX6_bestRound_178 rfl (by rw [hnL]; decide) rfl ?_
                      refine r_iinc (pc := 179) (d := 1) dX6_bestRound_179 rfl (by decide) (by rw [hnL]; decide) h (fun x201 h => ?_)
                      refine r_goto (pc := 182) (tgt := 34) dX6_bestRound_182 (by decide) ?_
                      exact r_mask [true, true, true, true, true, false] rfl (ih140 _ _ _ _ h)
                    · refine r_aload_n (pc := 167) dX6_bestRound_167 rfl rfl ?_
                      refine fX6_16 (pc := 168) hF dX6_bestRound_168 (fun b202 => ?_)
                      obtain ⟨m203, x204, q205, h⟩ := gCl_some h
                      refine r_callS (pc := 171) [.ref _] (tX6_credits _ _ _ hF _ _ _ _ q205 b202) ⟨rfl, rfl⟩ cd_X6_credits wX6_192 nm_X6_credits rfl (by rw [hRm]; decide) rfl (Nat.le_of_ble_eq_true rfl) dX6_bestRound_171 ?_
                      refine r_goto (pc := 174) (tgt := 178) dX6_bestRound_174 (by decide) ?_
                      refine r_istore_n (pc := 178) dX6_bestRound_178 rfl (by rw [hnL]; decide) rfl ?_
                      refine r_iinc (pc := 179) (d := 1) dX6_bestRound_179 rfl (by decide) (by rw [hnL]; decide) h (fun x206 h => ?_)
                      refine r_goto (pc := 182) (tgt := 34) dX6_bestRound_182 (by decide) ?_
                      exact r_mask [true, true, true, true, true, false] rfl (ih140 _ _ _ _ h)
      exact r_mask [true, true, true, true, true, false] rfl (L141 _ _ _ _ _ h)
    · refine r_iconst (pc := 24) (v := 0) dX6_bestRound_24 (by decide) ?_
      exact r_iretH dX6_bestRound_25 h he
def fX6_command (p1 : Int32) (p2 : Int32) (m : gM) : Option (gM × Int32) := gLt ((p2 / 10000)) fun x1 => gLt (((p2 / 1000) - (p2 / 1000) / 10 * 10)) fun x2 => gLt (((p2 / 100) - (p2 / 100) / 10 * 10)) fun x3 => gLt ((p2 - p2 / 100 * 100)) fun x4 => gLt ((p2 - p2 / 1000 * 1000)) fun x5 => gLt ((p2 - p2 / 10000 * 10000)) fun x6 => gLt (((p2 / 100) - (p2 / 100) / 100 * 100)) fun x7 => (if p1 = 1 then gCl (fX6_in (p2.toInt64) 1 60 m) fun m8 x9 => (if x9 = 0 then gRz .boolean 0 (some (m8, 0)) else gCl (fX6_daysOn 6082 258 p2 m8) fun m12 x13 => (if x13 < 0 then gRz .boolean 0 (some (m12, 0)) else gRz .boolean 1 (some (m12, 1)))) else (if p1 = 2 then (if x4 = 0 then gCl (fX6_isCustomer 6082 258 x1 m) fun m17 x18 => (if x18 = 0 then gRz .boolean 0 (some (m17, 0)) else gCl (fX6_isWeekday x2 m17) fun m20 x21 => (if x21 = 0 then gRz .boolean 0 (some (m20, 0)) else gCl (fX6_changeOn 6082 258 x1 x2 x3 m20) fun m24 x25 => (if x25 < 0 then gRz .boolean 0 (some (m24, 0)) else gRz .boolean 1 (some (m24, 1))))) else gRz .boolean 0 (some (m, 0))) else (if p1 = 3 then gCl (fX6_isCustomer 6082 258 x1 m) fun m29 x30 => (if x30 = 0 then gRz .boolean 0 (some (m29, 0)) else (if x4 < x7 then gRz .boolean 0 (some (m29, 0)) else gCl (fX6_of 6082 258 x1 14 m29) fun m33 x34 => (if 3 ≤ x34 then gRz .boolean 0 (some (m33, 0)) else gCl (fX6_holidayOn 6082 258 x1 x7 x4 m33) fun m37 x38 => (if x38 ≤ 0 then gRz .boolean 0 (some (m37, 0)) else gRz .boolean 1 (some (m37, 1)))))) else (if p1 = 4 then (if 2 ≤ x5 then gRz .boolean 0 (some (m, 0)) else gCl (fX6_isStreet x1 m) fun m41 x42 => (if x42 = 0 then gRz .boolean 0 (some (m41, 0)) else gCl (fX6_isWeekday x2 m41) fun m44 x45 => (if x45 = 0 then gRz .boolean 0 (some (m44, 0)) else (if x5 = 1 then gCl (fX6_closeOn 6082 258 x1 x2 1 m44) fun m51 x52 => (if x52 < 0 then gRz .boolean 0 (some (m51, 0)) else gRz .boolean 1 (some (m51, 1))) else gCl (fX6_closeOn 6082 258 x1 x2 0 m44) fun m48 x49 => (if x49 < 0 then gRz .boolean 0 (some (m48, 0)) else gRz .boolean 1 (some (m48, 1))))))) else (if p1 = 5 then (if x5 = 0 then gCl (fX6_isStreet x1 m) fun m55 x56 => (if x56 = 0 then gRz .boolean 0 (some (m55, 0)) else gCl (fX6_isStreet x2 m55) fun m58 x59 => (if x59 = 0 then gRz .boolean 0 (some (m58, 0)) else gCl (fX6_swapOn 6082 258 x1 x2 m58) fun m62 x63 => (if x63 < 0 then gRz .boolean 0 (some (m62, 0)) else gRz .boolean 1 (some (m62, 1))))) else gRz .boolean 0 (some (m, 0))) else (if p1 = 6 then (if 100 ≤ x6 then gRz .boolean 0 (some (m, 0)) else gCl (fX6_isSetting x1 x6 m) fun m66 x67 => (if x67 = 0 then gRz .boolean 0 (some (m66, 0)) else gCl (fX6_put 6082 258 (11 + x1) x6 m66) fun m70 x71 => (if x71 < 0 then gRz .boolean 0 (some (m70, 0)) else gRz .boolean 1 (some (m70, 1))))) else (if p1 = 7 then (if 100 ≤ x6 then gRz .boolean 0 (some (m, 0)) else gCl (fX6_isCustomer 6082 258 x1 m) fun m75 x76 => (if x76 = 0 then gRz .boolean 0 (some (m75, 0)) else gCl (fX6_of 6082 258 x1 8 m75) fun m79 x80 => (if x6 < x80 then gRz .boolean 0 (some (m79, 0)) else gRz .boolean 1 (some (m79, 1))))) else (if p1 = 8 then (if 10 ≤ x6 then gRz .boolean 0 (some (m, 0)) else gCl (fX6_isCustomer 6082 258 x1 m) fun m84 x85 => (if x85 = 0 then gRz .boolean 0 (some (m84, 0)) else gCl (fX6_reason 6082 258 x1 m84) fun m88 x89 => (if x89 = x6 then gRz .boolean 1 (some (m88, 1)) else gRz .boolean 0 (some (m88, 0))))) else (if p1 = 9 then (if x1 = 0 then gRd m 6082 258 3 fun x93 => gRd m 6082 258 4 fun x95 => (if (x93 + x95) < x6 then gRz .boolean 0 (some (m, 0)) else gRz .boolean 1 (some (m, 1))) else gRz .boolean 0 (some (m, 0))) else gRz .boolean 0 (some (m, 0)))))))))))
abbrev rmX6_command : Room := { frames := 7, cells := 0, slots := 0, locals := 162 }
set_option maxHeartbeats 4000000 in
set_option maxRecDepth 100000 in
theorem tX6_command (l : Launch) (G : gX) (u : gU) (hF : gFull u) (p1 : Int32) (p2 : Int32) (m : gM) (o : gM × Int32) (h : fX6_command p1 p2 m = some o)  : gMet l G u yX6_command (.code yX6_command cX6_command 10 (some .boolean)) rmX6_command [.ref 5693, .int p1, .int p2] m o.1 (some (.int o.2)) := by
  refine gMet_of (own := RX6) (k := 7) (by decide) rfl ⟨rfl, rfl⟩ (Nat.le_of_ble_eq_true rfl) [some (.ref 5693), some (.int p1), some (.int p2), none, none, none, none, none, none, none] rfl (fun Y hG hu hnL hLn hRm he => ?_)
  subst hG hu hLn
  unfold fX6_command at h
  refine r_iload_n (pc := 0) dX6_command_0 rfl rfl ?_
  refine r_sipush (pc := 1) (v := 10000) dX6_command_1 (by decide) ?_
  refine r_idivc (pc := 4) dX6_command_4 (by decide) ?_
  refine r_istore_nL (pc := 5) dX6_command_5 rfl (by rw [hnL]; decide) h (fun x1 h => ?_)
  refine r_iload_n (pc := 6) dX6_command_6 rfl rfl ?_
  refine r_sipush (pc := 7) (v := 1000) dX6_command_7 (by decide) ?_
  refine r_idivc (pc := 10) dX6_command_10 (by decide) ?_
  refine r_bipush (pc := 11) (v := 10) dX6_command_11 (by decide) ?_
  refine r_iremc (pc := 13) dX6_command_13 (by decide) ?_
  refine r_istoreL (pc := 14) dX6_command_14 (by rw [hnL]; decide) h (fun x2 h => ?_)
  refine r_iload_n (pc := 16) dX6_command_16 rfl rfl ?_
  refine r_bipush (pc := 17) (v := 100) dX6_command_17 (by decide) ?_
  refine r_idivc (pc := 19) dX6_command_19 (by decide) ?_
  refine r_bipush (pc := 20) (v := 10) dX6_command_20 (by decide) ?_
  refine r_iremc (pc := 22) dX6_command_22 (by decide) ?_
  refine r_istoreL (pc := 23) dX6_command_23 (by rw [hnL]; decide) h (fun x3 h => ?_)
  refine r_iload_n (pc := 25) dX6_command_25 rfl rfl ?_
  refine r_bipush (pc := 26) (v := 100) dX6_command_26 (by decide) ?_
  refine r_iremc (pc := 28) dX6_command_28 (by decide) ?_
  refine r_istoreL (pc := 29) dX6_command_29 (by rw [hnL]; decide) h (fun x4 h => ?_)
  refine r_iload_n (pc := 31) dX6_command_31 rfl rfl ?_
  refine r_sipush (pc := 32) (v := 1000) dX6_command_32 (by decide) ?_
  refine r_iremc (pc := 35) dX6_command_35 (by decide) ?_
  refine r_istoreL (pc := 36) dX6_command_36 (by rw [hnL]; decide) h (fun x5 h => ?_)
  refine r_iload_n (pc := 38) dX6_command_38 rfl rfl ?_
  refine r_sipush (pc := 39) (v := 10000) dX6_command_39 (by decide) ?_
  refine r_iremc (pc := 42) dX6_command_42 (by decide) ?_
  refine r_istoreL (pc := 43) dX6_command_43 (by rw [hnL]; decide) h (fun x6 h => ?_)
  refine r_iload_n (pc := 45) dX6_command_45 rfl rfl ?_
  refine r_bipush (pc := 46) (v := 100) dX6_command_46 (by decide) ?_
  refine r_idivc (pc := 48) dX6_command_48 (by decide) ?_
  refine r_bipush (pc := 49) (v := 100) dX6_command_49 (by decide) ?_
  refine r_iremc (pc := 51) dX6_command_51 (by decide) ?_
  refine r_istoreL (pc := 52) dX6_command_52 (by rw [hnL]; decide) h (fun x7 h => ?_)
  refine r_iload_n (pc := 54) dX6_command_54 rfl rfl ?_
  refine r_sw h (fun g15 h => ?_) (fun g15 h => ?_)
  · refine r_tabIn (pc := 55) (tgt := 104) (v := 1) dX6_command_55 g15 (by decide) (by decide) rfl (by decide) ?_
    refine r_iload_n (pc := 104) dX6_command_104 rfl rfl ?_
    refine r_i2l (pc := 105) dX6_command_105 ?_
    refine r_lconst (pc := 106) (v := 1) dX6_command_106 (by decide) ?_
    refine r_ldc2 (pc := 107) (v := 60) dX6_command_107 cX6_223 ?_
    obtain ⟨m8, x9, q10, h⟩ := gCl_some h
    refine r_callS (pc := 110) [.long _, .long _, .long _] (tX6_in _ _ _ hF _ _ _ _ _ q10) ⟨rfl, rfl⟩ cd_X6_in wX6_37 nm_X6_in rfl (by rw [hRm]; decide) rfl (Nat.le_of_ble_eq_true rfl) dX6_command_110 ?_
    refine r_if_eq (pc := 113) (tgt := 131) dX6_command_113 (by decide) h (fun h => ?_) (fun h => ?_)
    · refine r_iconst (pc := 131) (v := 0) dX6_command_131 (by decide) ?_
      exact r_zretH dX6_command_132 rfl h he
    · refine r_aload_n (pc := 116) dX6_command_116 rfl rfl ?_
      refine fX6_16 (pc := 117) hF dX6_command_117 (fun b11 => ?_)
      refine r_iload_n (pc := 120) dX6_command_120 rfl rfl ?_
      obtain ⟨m12, x13, q14, h⟩ := gCl_some h
      refine r_callS (pc := 121) [.ref _, .int _] (tX6_daysOn _ _ _ hF _ _ _ _ _ q14 b11) ⟨rfl, rfl⟩ cd_X6_daysOn wX6_173 nm_X6_daysOn rfl (by rw [hRm]; decide) rfl (Nat.le_of_ble_eq_true rfl) dX6_command_121 ?_
      refine r_if_lt (pc := 124) (tgt := 131) dX6_command_124 (by decide) h (fun h => ?_) (fun h => ?_)
      · refine r_iconst (pc := 131) (v := 0) dX6_command_131 (by decide) ?_
        exact r_zretH dX6_command_132 rfl h he
      · refine r_iconst (pc := 127) (v := 1) dX6_command_127 (by decide) ?_
        refine r_goto (pc := 128) (tgt := 132) dX6_command_128 (by decide) ?_
        exact r_zretH dX6_command_132 rfl h he
  refine r_sw h (fun g27 h => ?_) (fun g27 h => ?_)
  · refine r_tabIn (pc := 55) (tgt := 133) (v := 2) dX6_command_55 g27 (by decide) (by decide) rfl (by decide) ?_
    refine r_iload (pc := 133) dX6_command_133 rfl ?_
    refine r_if_ne (pc := 135) (tgt := 176) dX6_command_135 (by decide) h (fun h => ?_) (fun h => ?_)
    · refine r_iconst (pc := 176) (v := 0) dX6_command_176 (by decide) ?_
      exact r_zretH dX6_command_177 rfl h he
    · refine r_aload_n (pc := 138) dX6_command_138 rfl rfl ?_
      refine fX6_16 (pc := 139) hF dX6_command_139 (fun b16 => ?_)
      refine r_iload_n (pc := 142) dX6_command_142 rfl rfl ?_
      obtain ⟨m17, x18, q19, h⟩ := gCl_some h
      refine r_callS (pc := 143) [.ref _, .int _] (tX6_isCustomer _ _ _ hF _ _ _ _ _ q19 b16) ⟨rfl, rfl⟩ cd_X6_isCustomer wX6_139 nm_X6_isCustomer rfl (by rw [hRm]; decide) rfl (Nat.le_of_ble_eq_true rfl) dX6_command_143 ?_
      refine r_if_eq (pc := 146) (tgt := 176) dX6_command_146 (by decide) h (fun h => ?_) (fun h => ?_)
      · refine r_iconst (pc := 176) (v := 0) dX6_command_176 (by decide) ?_
        exact r_zretH dX6_command_177 rfl h he
      · refine r_iload (pc := 149) dX6_command_149 rfl ?_
        obtain ⟨m20, x21, q22, h⟩ := gCl_some h
        refine r_callS (pc := 151) [.int _] (tX6_isWeekday _ _ _ hF _ _ _ q22) ⟨rfl, rfl⟩ cd_X6_isWeekday wX6_200 nm_X6_isWeekday rfl (by rw [hRm]; decide) rfl (Nat.le_of_ble_eq_true rfl) dX6_command_151 ?_
        refine r_if_eq (pc := 154) (tgt := 176) dX6_command_154 (by decide) h (fun h => ?_) (fun h => ?_)
        · refine r_iconst (pc := 176) (v := 0) dX6_command_176 (by decide) ?_
          exact r_zretH dX6_command_177 rfl h he
        · refine r_aload_n (pc := 157) dX6_command_157 rfl rfl ?_
          refine fX6_16 (pc := 158) hF dX6_command_158 (fun b23 => ?_)
          refine r_iload_n (pc := 161) dX6_command_161 rfl rfl ?_
          refine r_iload (pc := 162) dX6_command_162 rfl ?_
          refine r_iload (pc := 164) dX6_command_164 rfl ?_
          obtain ⟨m24, x25, q26, h⟩ := gCl_some h
          refine r_callS (pc := 166) [.ref _, .int _, .int _, .int _] (tX6_changeOn _ _ _ hF _ _ _ _ _ _ _ q26 b23) ⟨rfl, rfl⟩ cd_X6_changeOn wX6_143 nm_X6_changeOn rfl (by rw [hRm]; decide) rfl (Nat.le_of_ble_eq_true rfl) dX6_command_166 ?_
          refine r_if_lt (pc := 169) (tgt := 176) dX6_command_169 (by decide) h (fun h => ?_) (fun h => ?_)
          · refine r_iconst (pc := 176) (v := 0) dX6_command_176 (by decide) ?_
            exact r_zretH dX6_command_177 rfl h he
          · refine r_iconst (pc := 172) (v := 1) dX6_command_172 (by decide) ?_
            refine r_goto (pc := 173) (tgt := 177) dX6_command_173 (by decide) ?_
            exact r_zretH dX6_command_177 rfl h he
  refine r_sw h (fun g40 h => ?_) (fun g40 h => ?_)
  · refine r_tabIn (pc := 55) (tgt := 178) (v := 3) dX6_command_55 g40 (by decide) (by decide) rfl (by decide) ?_
    refine r_aload_n (pc := 178) dX6_command_178 rfl rfl ?_
    refine fX6_16 (pc := 179) hF dX6_command_179 (fun b28 => ?_)
    refine r_iload_n (pc := 182) dX6_command_182 rfl rfl ?_
    obtain ⟨m29, x30, q31, h⟩ := gCl_some h
    refine r_callS (pc := 183) [.ref _, .int _] (tX6_isCustomer _ _ _ hF _ _ _ _ _ q31 b28) ⟨rfl, rfl⟩ cd_X6_isCustomer wX6_139 nm_X6_isCustomer rfl (by rw [hRm]; decide) rfl (Nat.le_of_ble_eq_true rfl) dX6_command_183 ?_
    refine r_if_eq (pc := 186) (tgt := 229) dX6_command_186 (by decide) h (fun h => ?_) (fun h => ?_)
    · refine r_iconst (pc := 229) (v := 0) dX6_command_229 (by decide) ?_
      exact r_zretH dX6_command_230 rfl h he
    · refine r_iload (pc := 189) dX6_command_189 rfl ?_
      refine r_iload (pc := 191) dX6_command_191 rfl ?_
      refine r_icmp_gt (pc := 193) (tgt := 229) dX6_command_193 (by decide) h (fun h => ?_) (fun h => ?_)
      · refine r_iconst (pc := 229) (v := 0) dX6_command_229 (by decide) ?_
        exact r_zretH dX6_command_230 rfl h he
      · refine r_aload_n (pc := 196) dX6_command_196 rfl rfl ?_
        refine fX6_16 (pc := 197) hF dX6_command_197 (fun b32 => ?_)
        refine r_iload_n (pc := 200) dX6_command_200 rfl rfl ?_
        refine r_bipush (pc := 201) (v := 14) dX6_command_201 (by decide) ?_
        obtain ⟨m33, x34, q35, h⟩ := gCl_some h
        refine r_callS (pc := 203) [.ref _, .int _, .int _] (tX6_of _ _ _ hF _ _ _ _ _ _ q35 b32) ⟨rfl, rfl⟩ cd_X6_of wX6_53 nm_X6_of rfl (by rw [hRm]; decide) rfl (Nat.le_of_ble_eq_true rfl) dX6_command_203 ?_
        refine r_iconst (pc := 206) (v := 3) dX6_command_206 (by decide) ?_
        refine r_icmp_ge (pc := 207) (tgt := 229) dX6_command_207 (by decide) h (fun h => ?_) (fun h => ?_)
        · refine r_iconst (pc := 229) (v := 0) dX6_command_229 (by decide) ?_
          exact r_zretH dX6_command_230 rfl h he
        · refine r_aload_n (pc := 210) dX6_command_210 rfl rfl ?_
          refine fX6_16 (pc := 211) hF dX6_command_211 (fun b36 => ?_)
          refine r_iload_n (pc := 214) dX6_command_214 rfl rfl ?_
          refine r_iload (pc := 215) dX6_command_215 rfl ?_
          refine r_iload (pc := 217) dX6_command_217 rfl ?_
          obtain ⟨m37, x38, q39, h⟩ := gCl_some h
          refine r_callS (pc := 219) [.ref _, .int _, .int _, .int _] (tX6_holidayOn _ _ _ hF _ _ _ _ _ _ _ q39 b36) ⟨rfl, rfl⟩ cd_X6_holidayOn wX6_146 nm_X6_holidayOn rfl (by rw [hRm]; decide) rfl (Nat.le_of_ble_eq_true rfl) dX6_command_219 ?_
          refine r_if_le (pc := 222) (tgt := 229) dX6_command_222 (by decide) h (fun h => ?_) (fun h => ?_)
          · refine r_iconst (pc := 229) (v := 0) dX6_command_229 (by decide) ?_
            exact r_zretH dX6_command_230 rfl h he
          · refine r_iconst (pc := 225) (v := 1) dX6_command_225 (by decide) ?_
            refine r_goto (pc := 226) (tgt := 230) dX6_command_226 (by decide) ?_
            exact r_zretH dX6_command_230 rfl h he
  refine r_sw h (fun g54 h => ?_) (fun g54 h => ?_)
  · refine r_tabIn (pc := 55) (tgt := 231) (v := 4) dX6_command_55 g54 (by decide) (by decide) rfl (by decide) ?_
    refine r_iload (pc := 231) dX6_command_231 rfl ?_
    refine r_iconst (pc := 233) (v := 2) dX6_command_233 (by decide) ?_
    refine r_icmp_ge (pc := 234) (tgt := 280) dX6_command_234 (by decide) h (fun h => ?_) (fun h => ?_)
    · refine r_iconst (pc := 280) (v := 0) dX6_command_280 (by decide) ?_
      exact r_zretH dX6_command_281 rfl h he
    · refine r_iload_n (pc := 237) dX6_command_237 rfl rfl ?_
      obtain ⟨m41, x42, q43, h⟩ := gCl_some h
      refine r_callS (pc := 238) [.int _] (tX6_isStreet _ _ _ hF _ _ _ q43) ⟨rfl, rfl⟩ cd_X6_isStreet wX6_205 nm_X6_isStreet rfl (by rw [hRm]; decide) rfl (Nat.le_of_ble_eq_true rfl) dX6_command_238 ?_
      refine r_if_eq (pc := 241) (tgt := 280) dX6_command_241 (by decide) h (fun h => ?_) (fun h => ?_)
      · refine r_iconst (pc := 280) (v := 0) dX6_command_280 (by decide) ?_
        exact r_zretH dX6_command_281 rfl h he
      · refine r_iload (pc := 244) dX6_command_244 rfl ?_
        obtain ⟨m44, x45, q46, h⟩ := gCl_some h
        refine r_callS (pc := 246) [.int _] (tX6_isWeekday _ _ _ hF _ _ _ q46) ⟨rfl, rfl⟩ cd_X6_isWeekday wX6_200 nm_X6_isWeekday rfl (by rw [hRm]; decide) rfl (Nat.le_of_ble_eq_true rfl) dX6_command_246 ?_
        refine r_if_eq (pc := 249) (tgt := 280) dX6_command_249 (by decide) h (fun h => ?_) (fun h => ?_)
        · refine r_iconst (pc := 280) (v := 0) dX6_command_280 (by decide) ?_
          exact r_zretH dX6_command_281 rfl h he
        · refine r_aload_n (pc := 252) dX6_command_252 rfl rfl ?_
          refine fX6_16 (pc := 253) hF dX6_command_253 (fun b47 => ?_)
          refine r_iload_n (pc := 256) dX6_command_256 rfl rfl ?_
          refine r_iload (pc := 257) dX6_command_257 rfl ?_
          refine r_iload (pc := 259) dX6_command_259 rfl ?_
          refine r_iconst (pc := 261) (v := 1) dX6_command_261 (by decide) ?_
          refine r_icmp_ne (pc := 262) (tgt := 269) dX6_command_262 (by decide) h (fun h => ?_) (fun h => ?_)
          · refine r_iconst (pc := 269) (v := 0) dX6_command_269 (by decide) ?_
            obtain ⟨m48, x49, q50, h⟩ := gCl_some h
            refine r_callS (pc := 270) [.ref _, .int _, .int _, .int _] (tX6_closeOn _ _ _ hF _ _ _ _ _ _ _ q50 b47) ⟨rfl, rfl⟩ cd_X6_closeOn wX6_149 nm_X6_closeOn rfl (by rw [hRm]; decide) rfl (Nat.le_of_ble_eq_true rfl) dX6_command_270 ?_
            refine r_if_lt (pc := 273) (tgt := 280) dX6_command_273 (by decide) h (fun h => ?_) (fun h => ?_)
            · refine r_iconst (pc := 280) (v := 0) dX6_command_280 (by decide) ?_
              exact r_zretH dX6_command_281 rfl h he
            · refine r_iconst (pc := 276) (v := 1) dX6_command_276 (by decide) ?_
              refine r_goto (pc := 277) (tgt := 281) dX6_command_277 (by decide) ?_
              exact r_zretH dX6_command_281 rfl h he
          · refine r_iconst (pc := 265) (v := 1) dX6_command_265 (by decide) ?_
            refine r_goto (pc := 266) (tgt := 270) dX6_command_266 (by decide) ?_
            obtain ⟨m51, x52, q53, h⟩ := gCl_some h
            refine r_callS (pc := 270) [.ref _, .int _, .int _, .int _] (tX6_closeOn _ _ _ hF _ _ _ _ _ _ _ q53 b47) ⟨rfl, rfl⟩ cd_X6_closeOn wX6_149 nm_X6_closeOn rfl (by rw [hRm]; decide) rfl (Nat.le_of_ble_eq_true rfl) dX6_command_270 ?_
            refine r_if_lt (pc := 273) (tgt := 280) dX6_command_273 (by decide) h (fun h => ?_) (fun h => ?_)
            · refine r_iconst (pc := 280) (v := 0) dX6_command_280 (by decide) ?_
              exact r_zretH dX6_command_281 rfl h he
            · refine r_iconst (pc := 276) (v := 1) dX6_command_276 (by decide) ?_
              refine r_goto (pc := 277) (tgt := 281) dX6_command_277 (by decide) ?_
              exact r_zretH dX6_command_281 rfl h he
  refine r_sw h (fun g65 h => ?_) (fun g65 h => ?_)
  · refine r_tabIn (pc := 55) (tgt := 282) (v := 5) dX6_command_55 g65 (by decide) (by decide) rfl (by decide) ?_
    refine r_iload (pc := 282) dX6_command_282 rfl ?_
    refine r_if_ne (pc := 284) (tgt := 319) dX6_command_284 (by decide) h (fun h => ?_) (fun h => ?_)
    · refine r_iconst (pc := 319) (v := 0) dX6_command_319 (by decide) ?_
      exact r_zretH dX6_command_320 rfl h he
    · refine r_iload_n (pc := 287) dX6_command_287 rfl rfl ?_
      obtain ⟨m55, x56, q57, h⟩ := gCl_some h
      refine r_callS (pc := 288) [.int _] (tX6_isStreet _ _ _ hF _ _ _ q57) ⟨rfl, rfl⟩ cd_X6_isStreet wX6_205 nm_X6_isStreet rfl (by rw [hRm]; decide) rfl (Nat.le_of_ble_eq_true rfl) dX6_command_288 ?_
      refine r_if_eq (pc := 291) (tgt := 319) dX6_command_291 (by decide) h (fun h => ?_) (fun h => ?_)
      · refine r_iconst (pc := 319) (v := 0) dX6_command_319 (by decide) ?_
        exact r_zretH dX6_command_320 rfl h he
      · refine r_iload (pc := 294) dX6_command_294 rfl ?_
        obtain ⟨m58, x59, q60, h⟩ := gCl_some h
        refine r_callS (pc := 296) [.int _] (tX6_isStreet _ _ _ hF _ _ _ q60) ⟨rfl, rfl⟩ cd_X6_isStreet wX6_205 nm_X6_isStreet rfl (by rw [hRm]; decide) rfl (Nat.le_of_ble_eq_true rfl) dX6_command_296 ?_
        refine r_if_eq (pc := 299) (tgt := 319) dX6_command_299 (by decide) h (fun h => ?_) (fun h => ?_)
        · refine r_iconst (pc := 319) (v := 0) dX6_command_319 (by decide) ?_
          exact r_zretH dX6_command_320 rfl h he
        · refine r_aload_n (pc := 302) dX6_command_302 rfl rfl ?_
          refine fX6_16 (pc := 303) hF dX6_command_303 (fun b61 => ?_)
          refine r_iload_n (pc := 306) dX6_command_306 rfl rfl ?_
          refine r_iload (pc := 307) dX6_command_307 rfl ?_
          obtain ⟨m62, x63, q64, h⟩ := gCl_some h
          refine r_callS (pc := 309) [.ref _, .int _, .int _] (tX6_swapOn _ _ _ hF _ _ _ _ _ _ q64 b61) ⟨rfl, rfl⟩ cd_X6_swapOn wX6_166 nm_X6_swapOn rfl (by rw [hRm]; decide) rfl (Nat.le_of_ble_eq_true rfl) dX6_command_309 ?_
          refine r_if_lt (pc := 312) (tgt := 319) dX6_command_312 (by decide) h (fun h => ?_) (fun h => ?_)
          · refine r_iconst (pc := 319) (v := 0) dX6_command_319 (by decide) ?_
            exact r_zretH dX6_command_320 rfl h he
          · refine r_iconst (pc := 315) (v := 1) dX6_command_315 (by decide) ?_
            refine r_goto (pc := 316) (tgt := 320) dX6_command_316 (by decide) ?_
            exact r_zretH dX6_command_320 rfl h he
  refine r_sw h (fun g73 h => ?_) (fun g73 h => ?_)
  · refine r_tabIn (pc := 55) (tgt := 321) (v := 6) dX6_command_55 g73 (by decide) (by decide) rfl (by decide) ?_
    refine r_iload (pc := 321) dX6_command_321 rfl ?_
    refine r_bipush (pc := 323) (v := 100) dX6_command_323 (by decide) ?_
    refine r_icmp_ge (pc := 325) (tgt := 357) dX6_command_325 (by decide) h (fun h => ?_) (fun h => ?_)
    · refine r_iconst (pc := 357) (v := 0) dX6_command_357 (by decide) ?_
      exact r_zretH dX6_command_358 rfl h he
    · refine r_iload_n (pc := 328) dX6_command_328 rfl rfl ?_
      refine r_iload (pc := 329) dX6_command_329 rfl ?_
      obtain ⟨m66, x67, q68, h⟩ := gCl_some h
      refine r_callS (pc := 331) [.int _, .int _] (tX6_isSetting _ _ _ hF _ _ _ _ q68) ⟨rfl, rfl⟩ cd_X6_isSetting wX6_169 nm_X6_isSetting rfl (by rw [hRm]; decide) rfl (Nat.le_of_ble_eq_true rfl) dX6_command_331 ?_
      refine r_if_eq (pc := 334) (tgt := 357) dX6_command_334 (by decide) h (fun h => ?_) (fun h => ?_)
      · refine r_iconst (pc := 357) (v := 0) dX6_command_357 (by decide) ?_
        exact r_zretH dX6_command_358 rfl h he
      · refine r_aload_n (pc := 337) dX6_command_337 rfl rfl ?_
        refine fX6_16 (pc := 338) hF dX6_command_338 (fun b69 => ?_)
        refine r_bipush (pc := 341) (v := 11) dX6_command_341 (by decide) ?_
        refine r_iload_n (pc := 343) dX6_command_343 rfl rfl ?_
        refine r_iadd (pc := 344) dX6_command_344 ?_
        refine r_iload (pc := 345) dX6_command_345 rfl ?_
        obtain ⟨m70, x71, q72, h⟩ := gCl_some h
        refine r_callS (pc := 347) [.ref _, .int _, .int _] (tX6_put _ _ _ hF _ _ _ _ _ _ q72 b69) ⟨rfl, rfl⟩ cd_X6_put wX6_95 nm_X6_put rfl (by rw [hRm]; decide) rfl (Nat.le_of_ble_eq_true rfl) dX6_command_347 ?_
        refine r_if_lt (pc := 350) (tgt := 357) dX6_command_350 (by decide) h (fun h => ?_) (fun h => ?_)
        · refine r_iconst (pc := 357) (v := 0) dX6_command_357 (by decide) ?_
          exact r_zretH dX6_command_358 rfl h he
        · refine r_iconst (pc := 353) (v := 1) dX6_command_353 (by decide) ?_
          refine r_goto (pc := 354) (tgt := 358) dX6_command_354 (by decide) ?_
          exact r_zretH dX6_command_358 rfl h he
  refine r_sw h (fun g82 h => ?_) (fun g82 h => ?_)
  · refine r_tabIn (pc := 55) (tgt := 359) (v := 7) dX6_command_55 g82 (by decide) (by decide) rfl (by decide) ?_
    refine r_iload (pc := 359) dX6_command_359 rfl ?_
    refine r_bipush (pc := 361) (v := 100) dX6_command_361 (by decide) ?_
    refine r_icmp_ge (pc := 363) (tgt := 396) dX6_command_363 (by decide) h (fun h => ?_) (fun h => ?_)
    · refine r_iconst (pc := 396) (v := 0) dX6_command_396 (by decide) ?_
      exact r_zretH dX6_command_397 rfl h he
    · refine r_aload_n (pc := 366) dX6_command_366 rfl rfl ?_
      refine fX6_16 (pc := 367) hF dX6_command_367 (fun b74 => ?_)
      refine r_iload_n (pc := 370) dX6_command_370 rfl rfl ?_
      obtain ⟨m75, x76, q77, h⟩ := gCl_some h
      refine r_callS (pc := 371) [.ref _, .int _] (tX6_isCustomer _ _ _ hF _ _ _ _ _ q77 b74) ⟨rfl, rfl⟩ cd_X6_isCustomer wX6_139 nm_X6_isCustomer rfl (by rw [hRm]; decide) rfl (Nat.le_of_ble_eq_true rfl) dX6_command_371 ?_
      refine r_if_eq (pc := 374) (tgt := 396) dX6_command_374 (by decide) h (fun h => ?_) (fun h => ?_)
      · refine r_iconst (pc := 396) (v := 0) dX6_command_396 (by decide) ?_
        exact r_zretH dX6_command_397 rfl h he
      · refine r_aload_n (pc := 377) dX6_command_377 rfl rfl ?_
        refine fX6_16 (pc := 378) hF dX6_command_378 (fun b78 => ?_)
        refine r_iload_n (pc := 381) dX6_command_381 rfl rfl ?_
        refine r_bipush (pc := 382) (v := 8) dX6_command_382 (by decide) ?_
        obtain ⟨m79, x80, q81, h⟩ := gCl_some h
        refine r_callS (pc := 384) [.ref _, .int _, .int _] (tX6_of _ _ _ hF _ _ _ _ _ _ q81 b78) ⟨rfl, rfl⟩ cd_X6_of wX6_53 nm_X6_of rfl (by rw [hRm]; decide) rfl (Nat.le_of_ble_eq_true rfl) dX6_command_384 ?_
        refine r_iload (pc := 387) dX6_command_387 rfl ?_
        refine r_icmp_gt (pc := 389) (tgt := 396) dX6_command_389 (by decide) h (fun h => ?_) (fun h => ?_)
        · refine r_iconst (pc := 396) (v := 0) dX6_command_396 (by decide) ?_
          exact r_zretH dX6_command_397 rfl h he
        · refine r_iconst (pc := 392) (v := 1) dX6_command_392 (by decide) ?_
          refine r_goto (pc := 393) (tgt := 397) dX6_command_393 (by decide) ?_
          exact r_zretH dX6_command_397 rfl h he
  refine r_sw h (fun g91 h => ?_) (fun g91 h => ?_)
  · refine r_tabIn (pc := 55) (tgt := 398) (v := 8) dX6_command_55 g91 (by decide) (by decide) rfl (by decide) ?_
    refine r_iload (pc := 398) dX6_command_398 rfl ?_
    refine r_bipush (pc := 400) (v := 10) dX6_command_400 (by decide) ?_
    refine r_icmp_ge (pc := 402) (tgt := 433) dX6_command_402 (by decide) h (fun h => ?_) (fun h => ?_)
    · refine r_iconst (pc := 433) (v := 0) dX6_command_433 (by decide) ?_
      exact r_zretH dX6_command_434 rfl h he
    · refine r_aload_n (pc := 405) dX6_command_405 rfl rfl ?_
      refine fX6_16 (pc := 406) hF dX6_command_406 (fun b83 => ?_)
      refine r_iload_n (pc := 409) dX6_command_409 rfl rfl ?_
      obtain ⟨m84, x85, q86, h⟩ := gCl_some h
      refine r_callS (pc := 410) [.ref _, .int _] (tX6_isCustomer _ _ _ hF _ _ _ _ _ q86 b83) ⟨rfl, rfl⟩ cd_X6_isCustomer wX6_139 nm_X6_isCustomer rfl (by rw [hRm]; decide) rfl (Nat.le_of_ble_eq_true rfl) dX6_command_410 ?_
      refine r_if_eq (pc := 413) (tgt := 433) dX6_command_413 (by decide) h (fun h => ?_) (fun h => ?_)
      · refine r_iconst (pc := 433) (v := 0) dX6_command_433 (by decide) ?_
        exact r_zretH dX6_command_434 rfl h he
      · refine r_aload_n (pc := 416) dX6_command_416 rfl rfl ?_
        refine fX6_16 (pc := 417) hF dX6_command_417 (fun b87 => ?_)
        refine r_iload_n (pc := 420) dX6_command_420 rfl rfl ?_
        obtain ⟨m88, x89, q90, h⟩ := gCl_some h
        refine r_callS (pc := 421) [.ref _, .int _] (tX6_reason _ _ _ hF _ _ _ _ _ q90 b87) ⟨rfl, rfl⟩ cd_X6_reason wX6_225 nm_X6_reason rfl (by rw [hRm]; decide) rfl (Nat.le_of_ble_eq_true rfl) dX6_command_421 ?_
        refine r_iload (pc := 424) dX6_command_424 rfl ?_
        refine r_icmp_ne (pc := 426) (tgt := 433) dX6_command_426 (by decide) h (fun h => ?_) (fun h => ?_)
        · refine r_iconst (pc := 433) (v := 0) dX6_command_433 (by decide) ?_
          exact r_zretH dX6_command_434 rfl h he
        · refine r_iconst (pc := 429) (v := 1) dX6_command_429 (by decide) ?_
          refine r_goto (pc := 430) (tgt := 434) dX6_command_430 (by decide) ?_
          exact r_zretH dX6_command_434 rfl h he
  refine r_sw h (fun g96 h => ?_) (fun g96 h => ?_)
  · refine r_tabIn (pc := 55) (tgt := 435) (v := 9) dX6_command_55 g96 (by decide) (by decide) rfl (by decide) ?_
    refine r_iload_n (pc := 435) dX6_command_435 rfl rfl ?_
    refine r_if_ne (pc := 436) (tgt := 461) dX6_command_436 (by decide) h (fun h => ?_) (fun h => ?_)
    · refine r_iconst (pc := 461) (v := 0) dX6_command_461 (by decide) ?_
      exact r_zretH dX6_command_462 rfl h he
    · refine r_aload_n (pc := 439) dX6_command_439 rfl rfl ?_
      refine fX6_16 (pc := 440) hF dX6_command_440 (fun b92 => ?_)
      refine r_iconst (pc := 443) (v := 3) dX6_command_443 (by decide) ?_
      refine r_iald (pc := 444) dX6_command_444 b92 h (fun x93 h => ?_)
      refine r_aload_n (pc := 445) dX6_command_445 rfl rfl ?_
      refine fX6_16 (pc := 446) hF dX6_command_446 (fun b94 => ?_)
      refine r_iconst (pc := 449) (v := 4) dX6_command_449 (by decide) ?_
      refine r_iald (pc := 450) dX6_command_450 b94 h (fun x95 h => ?_)
      refine r_iadd (pc := 451) dX6_command_451 ?_
      refine r_iload (pc := 452) dX6_command_452 rfl ?_
      refine r_icmp_lt (pc := 454) (tgt := 461) dX6_command_454 (by decide) h (fun h => ?_) (fun h => ?_)
      · refine r_iconst (pc := 461) (v := 0) dX6_command_461 (by decide) ?_
        exact r_zretH dX6_command_462 rfl h he
      · refine r_iconst (pc := 457) (v := 1) dX6_command_457 (by decide) ?_
        refine r_goto (pc := 458) (tgt := 462) dX6_command_458 (by decide) ?_
        exact r_zretH dX6_command_462 rfl h he
  have g15 := gNe g15 (z := 1) (by decide)
  have g27 := gNe g27 (z := 2) (by decide)
  have g40 := gNe g40 (z := 3) (by decide)
  have g54 := gNe g54 (z := 4) (by decide)
  have g65 := gNe g65 (z := 5) (by decide)
  have g73 := gNe g73 (z := 6) (by decide)
  have g82 := gNe g82 (z := 7) (by decide)
  have g91 := gNe g91 (z := 8) (by decide)
  have g96 := gNe g96 (z := 9) (by decide)
  refine r_tabOut (pc := 55) (tgt := 463) dX6_command_55 (by omega) (by decide) ?_
  refine r_iconst (pc := 463) (v := 0) dX6_command_463 (by decide) ?_
  exact r_zretH dX6_command_464 rfl h he
def fX6_runScript_L86 (v1 : Int32) (v2 : Int64) (r6 : Int64 → Int32 → gM → Option (gM × Int32)) : Nat → Int64 → Int32 → gM → Option (gM × Int32)
  | 0, _, _, _ => none
  | n + 1, v4, v6, m => (if v1 ≤ v6 then some (m, (-1)) else gDl ((v4 / 1000000)) <| gLt (((v2 / (v4 / 1000000)) - (v2 / (v4 / 1000000)) / 1000000 * 1000000).toInt32) fun x12 => gCl (fX6_command (x12 / 100000) (x12 - x12 / 100000 * 100000) m) fun m13 x14 => (if x14 = 0 then some (m13, v6) else gLt (v6 + 1) fun x16 => fX6_runScript_L86 v1 v2 r6 n (v4 / 1000000) x16 m13))
def fX6_runScript_L6 (v1 : Int32) (v2 : Int64) : Nat → Int64 → Int32 → gM → Option (gM × Int32)
  | 0, _, _, _ => none
  | n + 1, v4, v6, m => (if v1 ≤ v6 then gCl (fX6_in (v1.toInt64) 1 3 m) fun m1 x2 => (if x2 = 0 then gCl (fX6_refused 1 m1) fun m4 x5 => (if x5 = 0 then gCv (fX6_copyState 5824 258 0 6082 258 0 m4) fun m9 => fX6_runScript_L86 v1 v2 (fX6_runScript_L6 v1 v2 n) gFU v4 0 m9 else some (m4, 0)) else gCl (fX6_in v2 0 (v4 - 1) m1) fun m28 x29 => (if x29 = 0 then gCl (fX6_refused 1 m28) fun m31 x32 => (if x32 = 0 then gCv (fX6_copyState 5824 258 0 6082 258 0 m31) fun m36 => fX6_runScript_L86 v1 v2 (fX6_runScript_L6 v1 v2 n) gFU v4 0 m36 else some (m31, 0)) else gCl (fX6_refused 0 m28) fun m50 x51 => (if x51 = 0 then gCv (fX6_copyState 5824 258 0 6082 258 0 m50) fun m55 => fX6_runScript_L86 v1 v2 (fX6_runScript_L6 v1 v2 n) gFU v4 0 m55 else some (m50, 0)))) else (if 3 ≤ v6 then gCl (fX6_in (v1.toInt64) 1 3 m) fun m69 x70 => (if x70 = 0 then gCl (fX6_refused 1 m69) fun m72 x73 => (if x73 = 0 then gCv (fX6_copyState 5824 258 0 6082 258 0 m72) fun m77 => fX6_runScript_L86 v1 v2 (fX6_runScript_L6 v1 v2 n) gFU v4 0 m77 else some (m72, 0)) else gCl (fX6_in v2 0 (v4 - 1) m69) fun m91 x92 => (if x92 = 0 then gCl (fX6_refused 1 m91) fun m94 x95 => (if x95 = 0 then gCv (fX6_copyState 5824 258 0 6082 258 0 m94) fun m99 => fX6_runScript_L86 v1 v2 (fX6_runScript_L6 v1 v2 n) gFU v4 0 m99 else some (m94, 0)) else gCl (fX6_refused 0 m91) fun m113 x114 => (if x114 = 0 then gCv (fX6_copyState 5824 258 0 6082 258 0 m113) fun m118 => fX6_runScript_L86 v1 v2 (fX6_runScript_L6 v1 v2 n) gFU v4 0 m118 else some (m113, 0)))) else gLt (v6 + 1) fun x132 => fX6_runScript_L6 v1 v2 n (v4 * 1000000) x132 m))
def fX6_runScript (p1 : Int32) (p2 : Int64) (m : gM) : Option (gM × Int32) := fX6_runScript_L6 p1 p2 gFU 1 0 m
abbrev rmX6_runScript : Room := { frames := 8, cells := 0, slots := 0, locals := 191 }
set_option maxHeartbeats 4000000 in
set_option maxRecDepth 100000 in
theorem tX6_runScript (l : Launch) (G : gX) (u : gU) (hF : gFull u) (p1 : Int32) (p2 : Int64) (m : gM) (o : gM × Int32) (h : fX6_runScript p1 p2 m = some o)  : gMet l G u yX6_runScript (.code yX6_runScript cX6_runScript 8 (some .int)) rmX6_runScript [.ref 5693, .int p1, .long p2] m o.1 (some (.int o.2)) := by
  refine gMet_of (own := RX6) (k := 4) (by decide) rfl ⟨rfl, rfl⟩ (Nat.le_of_ble_eq_true rfl) [some (.ref 5693), some (.int p1), some (.long p2), none, none, none, none, none] rfl (fun Y hG hu hnL hLn hRm he => ?_)
  subst hG hu hLn
  unfold fX6_runScript at h
  refine r_lconst (pc := 0) (v := 1) dX6_runScript_0 (by decide) ?_
  refine r_lstore (pc := 1) dX6_runScript_1 (by rw [hnL]; decide) rfl ?_
  refine r_iconst (pc := 3) (v := 0) dX6_runScript_3 (by decide) ?_
  refine r_istore (pc := 4) dX6_runScript_4 (by rw [hnL]; decide) rfl ?_
  have L135 : ∀ (n133 : Nat) (v136 : Int64) (v137 : Int32) (m138 : gM), fX6_runScript_L6 p1 p2 n133 v136 v137 m138 = some o → AW Y cX6_runScript RX6 6 [some (.ref 5693), some (.int p1), some (.long p2), none, some (.long v136), none, some (.int v137), none] [] m138 := by
    intro n133
    induction n133 with
    | zero =>
      intro v136 v137 m138 h
      exact absurd h (by simp [fX6_runScript_L6])
    | succ n133 ih134 =>
      intro v136 v137 m138 h
      rw [fX6_runScript_L6] at h
      refine r_iload (pc := 6) dX6_runScript_6 rfl ?_
      refine r_iload_n (pc := 8) dX6_runScript_8 rfl rfl ?_
      refine r_icmp_ge (pc := 9) (tgt := 32) dX6_runScript_9 (by decide) h (fun h => ?_) (fun h => ?_)
      · refine r_aload_n (pc := 32) dX6_runScript_32 rfl rfl ?_
        refine r_iload_n (pc := 33) dX6_runScript_33 rfl rfl ?_
        refine r_i2l (pc := 34) dX6_runScript_34 ?_
        refine r_lconst (pc := 35) (v := 1) dX6_runScript_35 (by decide) ?_
        refine r_ldc2 (pc := 36) (v := 3) dX6_runScript_36 cX6_41 ?_
        obtain ⟨m139, x140, q141, h⟩ := gCl_some h
        refine r_callS (pc := 39) [.long _, .long _, .long _] (tX6_in _ _ _ hF _ _ _ _ _ q141) ⟨rfl, rfl⟩ cd_X6_in wX6_37 nm_X6_in rfl (by rw [hRm]; decide) rfl (Nat.le_of_ble_eq_true rfl) dX6_runScript_39 ?_
        refine r_if_eq (pc := 42) (tgt := 61) dX6_runScript_42 (by decide) h (fun h => ?_) (fun h => ?_)
        · refine r_iconst (pc := 61) (v := 1) dX6_runScript_61 (by decide) ?_
          obtain ⟨m142, x143, q144, h⟩ := gCl_some h
          refine r_callV (kd := 5) (pc := 62) [.int _] (tX6_refused _ _ _ hF _ _ _ q144) ⟨rfl, rfl⟩ cd_X6_refused wX6_108 nm_X6_refused rfl (by rw [hRm]; decide) rfl (Nat.le_of_ble_eq_true rfl) rfl (by decide) (gO5 hF) dX6_runScript_62 ?_
          refine r_if_eq (pc := 65) (tgt := 70) dX6_runScript_65 (by decide) h (fun h => ?_) (fun h => ?_)
          · refine r_aload_n (pc := 70) dX6_runScript_70 rfl rfl ?_
            refine fX6_13 (pc := 71) hF dX6_runScript_71 (fun b145 => ?_)
            refine r_iconst (pc := 74) (v := 0) dX6_runScript_74 (by decide) ?_
            refine r_aload_n (pc := 75) dX6_runScript_75 rfl rfl ?_
            refine fX6_16 (pc := 76) hF dX6_runScript_76 (fun b146 => ?_)
            refine r_iconst (pc := 79) (v := 0) dX6_runScript_79 (by decide) ?_
            obtain ⟨m147, q149, h⟩ := gCv_some h
            refine r_callS (pc := 80) [.ref _, .int _, .ref _, .int _] (tX6_copyState _ _ _ hF _ _ _ _ _ _ _ _ q149 b145 b146) ⟨rfl, rfl⟩ cd_X6_copyState wX6_183 nm_X6_copyState rfl (by rw [hRm]; decide) rfl (Nat.le_of_ble_eq_true rfl) dX6_runScript_80 ?_
            refine r_iconst (pc := 83) (v := 0) dX6_runScript_83 (by decide) ?_
            refine r_istore (pc := 84) dX6_runScript_84 (by rw [hnL]; decide) rfl ?_
            have L152 : ∀ (n150 : Nat) (v153 : Int64) (v154 : Int32) (m155 : gM), fX6_runScript_L86 p1 p2 (fX6_runScript_L6 p1 p2 n133) n150 v153 v154 m155 = some o → AW Y cX6_runScript RX6 86 [some (.ref 5693), some (.int p1), some (.long p2), none, some (.long v153), none, some (.int v154), none] [] m155 := by
              intro n150
              induction n150 with
              | zero =>
                intro v153 v154 m155 h
                exact absurd h (by simp [fX6_runScript_L86])
              | succ n150 ih151 =>
                intro v153 v154 m155 h
                rw [fX6_runScript_L86] at h
                refine r_iload (pc := 86) dX6_runScript_86 rfl ?_
                refine r_iload_n (pc := 88) dX6_runScript_88 rfl rfl ?_
                refine r_icmp_ge (pc := 89) (tgt := 137) dX6_runScript_89 (by decide) h (fun h => ?_) (fun h => ?_)
                · refine r_iconst (pc := 137) (v := (-1)) dX6_runScript_137 (by decide) ?_
                  exact r_iretH dX6_runScript_138 h he
                · refine r_lload (pc := 92) dX6_runScript_92 rfl ?_
                  refine r_ldc2 (pc := 94) (v := 1000000) dX6_runScript_94 cX6_233 ?_
                  refine r_ldivc (pc := 97) dX6_runScript_97 (by decide) ?_
                  refine r_lstore (pc := 98) dX6_runScript_98 (by rw [hnL]; decide) rfl ?_
                  refine r_lload_n (pc := 100) dX6_runScript_100 rfl rfl ?_
                  refine r_lload (pc := 101) dX6_runScript_101 rfl ?_
                  refine r_ldiv (pc := 103) dX6_runScript_103 h (fun h => ?_)
                  refine r_ldc2 (pc := 104) (v := 1000000) dX6_runScript_104 cX6_233 ?_
                  refine r_lremc (pc := 107) dX6_runScript_107 (by decide) ?_
                  refine r_l2i (pc := 108) dX6_runScript_108 ?_
                  refine r_istoreL (pc := 109) dX6_runScript_109 (by rw [hnL]; decide) h (fun x156 h => ?_)
                  refine r_aload_n (pc := 111) dX6_runScript_111 rfl rfl ?_
                  refine r_iload (pc := 112) dX6_runScript_112 rfl ?_
                  refine r_ldc (pc := 114) (v := 100000) dX6_runScript_114 cX6_235 ?_
                  refine r_idivc (pc := 116) dX6_runScript_116 (by decide) ?_
                  refine r_iload (pc := 117) dX6_runScript_117 rfl ?_
                  refine r_ldc (pc := 119) (v := 100000) dX6_runScript_119 cX6_235 ?_
                  refine r_iremc (pc := 121) dX6_runScript_121 (by decide) ?_
                  obtain ⟨m157, x158, q159, h⟩ := gCl_some h
                  refine r_callV (kd := 5) (pc := 122) [.int _, .int _] (tX6_command _ _ _ hF _ _ _ _ q159) ⟨rfl, rfl⟩ cd_X6_command wX6_236 nm_X6_command rfl (by rw [hRm]; decide) rfl (Nat.le_of_ble_eq_true rfl) rfl (by decide) (gO5 hF) dX6_runScript_122 ?_
                  refine r_if_ne (pc := 125) (tgt := 131) dX6_runScript_125 (by decide) h (fun h => ?_) (fun h => ?_)
                  · refine r_iinc (pc := 131) (d := 1) dX6_runScript_131 rfl (by decide) (by rw [hnL]; decide) h (fun x160 h => ?_)
                    refine r_goto (pc := 134) (tgt := 86) dX6_runScript_134 (by decide) ?_
                    exact r_mask [true, true, true, false, true, false, true, false] rfl (ih151 _ _ _ h)
                  · refine r_iload (pc := 128) dX6_runScript_128 rfl ?_
                    exact r_iretH dX6_runScript_130 h he
            exact r_mask [true, true, true, false, true, false, true, false] rfl (L152 _ _ _ _ h)
          · refine r_iconst (pc := 68) (v := 0) dX6_runScript_68 (by decide) ?_
            exact r_iretH dX6_runScript_69 h he
        · refine r_lload_n (pc := 45) dX6_runScript_45 rfl rfl ?_
          refine r_lconst (pc := 46) (v := 0) dX6_runScript_46 (by decide) ?_
          refine r_lload (pc := 47) dX6_runScript_47 rfl ?_
          refine r_lconst (pc := 49) (v := 1) dX6_runScript_49 (by decide) ?_
          refine r_lsub (pc := 50) dX6_runScript_50 ?_
          obtain ⟨m161, x162, q163, h⟩ := gCl_some h
          refine r_callS (pc := 51) [.long _, .long _, .long _] (tX6_in _ _ _ hF _ _ _ _ _ q163) ⟨rfl, rfl⟩ cd_X6_in wX6_37 nm_X6_in rfl (by rw [hRm]; decide) rfl (Nat.le_of_ble_eq_true rfl) dX6_runScript_51 ?_
          refine r_if_eq (pc := 54) (tgt := 61) dX6_runScript_54 (by decide) h (fun h => ?_) (fun h => ?_)
          · refine r_iconst (pc := 61) (v := 1) dX6_runScript_61 (by decide) ?_
            obtain ⟨m164, x165, q166, h⟩ := gCl_some h
            refine r_callV (kd := 5) (pc := 62) [.int _] (tX6_refused _ _ _ hF _ _ _ q166) ⟨rfl, rfl⟩ cd_X6_refused wX6_108 nm_X6_refused rfl (by rw [hRm]; decide) rfl (Nat.le_of_ble_eq_true rfl) rfl (by decide) (gO5 hF) dX6_runScript_62 ?_
            refine r_if_eq (pc := 65) (tgt := 70) dX6_runScript_65 (by decide) h (fun h => ?_) (fun h => ?_)
            · refine r_aload_n (pc := 70) dX6_runScript_70 rfl rfl ?_
              refine fX6_13 (pc := 71) hF dX6_runScript_71 (fun b167 => ?_)
              refine r_iconst (pc := 74) (v := 0) dX6_runScript_74 (by decide) ?_
              refine r_aload_n (pc := 75) dX6_runScript_75 rfl rfl ?_
              refine fX6_16 (pc := 76) hF dX6_runScript_76 (fun b168 => ?_)
              refine r_iconst (pc := 79) (v := 0) dX6_runScript_79 (by decide) ?_
              obtain ⟨m169, q171, h⟩ := gCv_some h
              refine r_callS (pc := 80) [.ref _, .int _, .ref _, .int _] (tX6_copyState _ _ _ hF _ _ _ _ _ _ _ _ q171 b167 b168) ⟨rfl, rfl⟩ cd_X6_copyState wX6_183 nm_X6_copyState rfl (by rw [hRm]; decide) rfl (Nat.le_of_ble_eq_true rfl) dX6_runScript_80 ?_
              refine r_iconst (pc := 83) (v := 0) dX6_runScript_83 (by decide) ?_
              refine r_istore (pc := 84) dX6_runScript_84 (by rw [hnL]; decide) rfl ?_
              have L174 : ∀ (n172 : Nat) (v175 : Int64) (v176 : Int32) (m177 : gM), fX6_runScript_L86 p1 p2 (fX6_runScript_L6 p1 p2 n133) n172 v175 v176 m177 = some o → AW Y cX6_runScript RX6 86 [some (.ref 5693), some (.int p1), some (.long p2), none, some (.long v175), none, some (.int v176), none] [] m177 := by
                intro n172
                induction n172 with
                | zero =>
                  intro v175 v176 m177 h
                  exact absurd h (by simp [fX6_runScript_L86])
                | succ n172 ih173 =>
                  intro v175 v176 m177 h
                  rw [fX6_runScript_L86] at h
                  refine r_iload (pc := 86) dX6_runScript_86 rfl ?_
                  refine r_iload_n (pc := 88) dX6_runScript_88 rfl rfl ?_
                  refine r_icmp_ge (pc := 89) (tgt := 137) dX6_runScript_89 (by decide) h (fun h => ?_) (fun h => ?_)
                  · refine r_iconst (pc := 137) (v := (-1)) dX6_runScript_137 (by decide) ?_
                    exact r_iretH dX6_runScript_138 h he
                  · refine r_lload (pc := 92) dX6_runScript_92 rfl ?_
                    refine r_ldc2 (pc := 94) (v := 1000000) dX6_runScript_94 cX6_233 ?_
                    refine r_ldivc (pc := 97) dX6_runScript_97 (by decide) ?_
                    refine r_lstore (pc := 98) dX6_runScript_98 (by rw [hnL]; decide) rfl ?_
                    refine r_lload_n (pc := 100) dX6_runScript_100 rfl rfl ?_
                    refine r_lload (pc := 101) dX6_runScript_101 rfl ?_
                    refine r_ldiv (pc := 103) dX6_runScript_103 h (fun h => ?_)
                    refine r_ldc2 (pc := 104) (v := 1000000) dX6_runScript_104 cX6_233 ?_
                    refine r_lremc (pc := 107) dX6_runScript_107 (by decide) ?_
                    refine r_l2i (pc := 108) dX6_runScript_108 ?_
                    refine r_istoreL (pc := 109) dX6_runScript_109 (by rw [hnL]; decide) h (fun x178 h => ?_)
                    refine r_aload_n (pc := 111) dX6_runScript_111 rfl rfl ?_
                    refine r_iload (pc := 112) dX6_runScript_112 rfl ?_
                    refine r_ldc (pc := 114) (v := 100000) dX6_runScript_114 cX6_235 ?_
                    refine r_idivc (pc := 116) dX6_runScript_116 (by decide) ?_
                    refine r_iload (pc := 117) dX6_runScript_117 rfl ?_
                    refine r_ldc (pc := 119) (v := 100000) dX6_runScript_119 cX6_235 ?_
                    refine r_iremc (pc := 121) dX6_runScript_121 (by decide) ?_
                    obtain ⟨m179, x180, q181, h⟩ := gCl_some h
                    refine r_callV (kd := 5) (pc := 122) [.int _, .int _] (tX6_command _ _ _ hF _ _ _ _ q181) ⟨rfl, rfl⟩ cd_X6_command wX6_236 nm_X6_command rfl (by rw [hRm]; decide) rfl (Nat.le_of_ble_eq_true rfl) rfl (by decide) (gO5 hF) dX6_runScript_122 ?_
                    refine r_if_ne (pc := 125) (tgt := 131) dX6_runScript_125 (by decide) h (fun h => ?_) (fun h => ?_)
                    · refine r_iinc (pc := 131) (d := 1) dX6_runScript_131 rfl (by decide) (by rw [hnL]; decide) h (fun x182 h => ?_)
                      refine r_goto (pc := 134) (tgt := 86) dX6_runScript_134 (by decide) ?_
                      exact r_mask [true, true, true, false, true, false, true, false] rfl (ih173 _ _ _ h)
                    · refine r_iload (pc := 128) dX6_runScript_128 rfl ?_
                      exact r_iretH dX6_runScript_130 h he
              exact r_mask [true, true, true, false, true, false, true, false] rfl (L174 _ _ _ _ h)
            · refine r_iconst (pc := 68) (v := 0) dX6_runScript_68 (by decide) ?_
              exact r_iretH dX6_runScript_69 h he
          · refine r_iconst (pc := 57) (v := 0) dX6_runScript_57 (by decide) ?_
            refine r_goto (pc := 58) (tgt := 62) dX6_runScript_58 (by decide) ?_
            obtain ⟨m183, x184, q185, h⟩ := gCl_some h
            refine r_callV (kd := 5) (pc := 62) [.int _] (tX6_refused _ _ _ hF _ _ _ q185) ⟨rfl, rfl⟩ cd_X6_refused wX6_108 nm_X6_refused rfl (by rw [hRm]; decide) rfl (Nat.le_of_ble_eq_true rfl) rfl (by decide) (gO5 hF) dX6_runScript_62 ?_
            refine r_if_eq (pc := 65) (tgt := 70) dX6_runScript_65 (by decide) h (fun h => ?_) (fun h => ?_)
            · refine r_aload_n (pc := 70) dX6_runScript_70 rfl rfl ?_
              refine fX6_13 (pc := 71) hF dX6_runScript_71 (fun b186 => ?_)
              refine r_iconst (pc := 74) (v := 0) dX6_runScript_74 (by decide) ?_
              refine r_aload_n (pc := 75) dX6_runScript_75 rfl rfl ?_
              refine fX6_16 (pc := 76) hF dX6_runScript_76 (fun b187 => ?_)
              refine r_iconst (pc := 79) (v := 0) dX6_runScript_79 (by decide) ?_
              obtain ⟨m188, q190, h⟩ := gCv_some h
              refine r_callS (pc := 80) [.ref _, .int _, .ref _, .int _] (tX6_copyState _ _ _ hF _ _ _ _ _ _ _ _ q190 b186 b187) ⟨rfl, rfl⟩ cd_X6_copyState wX6_183 nm_X6_copyState rfl (by rw [hRm]; decide) rfl (Nat.le_of_ble_eq_true rfl) dX6_runScript_80 ?_
              refine r_iconst (pc := 83) (v := 0) dX6_runScript_83 (by decide) ?_
              refine r_istore (pc := 84) dX6_runScript_84 (by rw [hnL]; decide) rfl ?_
              have L193 : ∀ (n191 : Nat) (v194 : Int64) (v195 : Int32) (m196 : gM), fX6_runScript_L86 p1 p2 (fX6_runScript_L6 p1 p2 n133) n191 v194 v195 m196 = some o → AW Y cX6_runScript RX6 86 [some (.ref 5693), some (.int p1), some (.long p2), none, some (.long v194), none, some (.int v195), none] [] m196 := by
                intro n191
                induction n191 with
                | zero =>
                  intro v194 v195 m196 h
                  exact absurd h (by simp [fX6_runScript_L86])
                | succ n191 ih192 =>
                  intro v194 v195 m196 h
                  rw [fX6_runScript_L86] at h
                  refine r_iload (pc := 86) dX6_runScript_86 rfl ?_
                  refine r_iload_n (pc := 88) dX6_runScript_88 rfl rfl ?_
                  refine r_icmp_ge (pc := 89) (tgt := 137) dX6_runScript_89 (by decide) h (fun h => ?_) (fun h => ?_)
                  · refine r_iconst (pc := 137) (v := (-1)) dX6_runScript_137 (by decide) ?_
                    exact r_iretH dX6_runScript_138 h he
                  · refine r_lload (pc := 92) dX6_runScript_92 rfl ?_
                    refine r_ldc2 (pc := 94) (v := 1000000) dX6_runScript_94 cX6_233 ?_
                    refine r_ldivc (pc := 97) dX6_runScript_97 (by decide) ?_
                    refine r_lstore (pc := 98) dX6_runScript_98 (by rw [hnL]; decide) rfl ?_
                    refine r_lload_n (pc := 100) dX6_runScript_100 rfl rfl ?_
                    refine r_lload (pc := 101) dX6_runScript_101 rfl ?_
                    refine r_ldiv (pc := 103) dX6_runScript_103 h (fun h => ?_)
                    refine r_ldc2 (pc := 104) (v := 1000000) dX6_runScript_104 cX6_233 ?_
                    refine r_lremc (pc := 107) dX6_runScript_107 (by decide) ?_
                    refine r_l2i (pc := 108) dX6_runScript_108 ?_
                    refine r_istoreL (pc := 109) dX6_runScript_109 (by rw [hnL]; decide) h (fun x197 h => ?_)
                    refine r_aload_n (pc := 111) dX6_runScript_111 rfl rfl ?_
                    refine r_iload (pc := 112) dX6_runScript_112 rfl ?_
                    refine r_ldc (pc := 114) (v := 100000) dX6_runScript_114 cX6_235 ?_
                    refine r_idivc (pc := 116) dX6_runScript_116 (by decide) ?_
                    refine r_iload (pc := 117) dX6_runScript_117 rfl ?_
                    refine r_ldc (pc := 119) (v := 100000) dX6_runScript_119 cX6_235 ?_
                    refine r_iremc (pc := 121) dX6_runScript_121 (by decide) ?_
                    obtain ⟨m198, x199, q200, h⟩ := gCl_some h
                    refine r_callV (kd := 5) (pc := 122) [.int _, .int _] (tX6_command _ _ _ hF _ _ _ _ q200) ⟨rfl, rfl⟩ cd_X6_command wX6_236 nm_X6_command rfl (by rw [hRm]; decide) rfl (Nat.le_of_ble_eq_true rfl) rfl (by decide) (gO5 hF) dX6_runScript_122 ?_
                    refine r_if_ne (pc := 125) (tgt := 131) dX6_runScript_125 (by decide) h (fun h => ?_) (fun h => ?_)
                    · refine r_iinc (pc := 131) (d := 1) dX6_runScript_131 rfl (by decide) (by rw [hnL]; decide) h (fun x201 h => ?_)
                      refine r_goto (pc := 134) (tgt := 86) dX6_runScript_134 (by decide) ?_
                      exact r_mask [true, true, true, false, true, false, true, false] rfl (ih192 _ _ _ h)
                    · refine r_iload (pc := 128) dX6_runScript_128 rfl ?_
                      exact r_iretH dX6_runScript_130 h he
              exact r_mask [true, true, true, false, true, false, true, false] rfl (L193 _ _ _ _ h)
            · refine r_iconst (pc := 68) (v := 0) dX6_runScript_68 (by decide) ?_
              exact r_iretH dX6_runScript_69 h he
      · refine r_iload (pc := 12) dX6_runScript_12 rfl ?_
        refine r_iconst (pc := 14) (v := 3) dX6_runScript_14 (by decide) ?_
        refine r_icmp_ge (pc := 15) (tgt := 32) dX6_runScript_15 (by decide) h (fun h => ?_) (fun h => ?_)
        · refine r_aload_n (pc := 32) dX6_runScript_32 rfl rfl ?_
          refine r_iload_n (pc := 33) dX6_runScript_33 rfl rfl ?_
          refine r_i2l (pc := 34) dX6_runScript_34 ?_
          refine r_lconst (pc := 35) (v := 1) dX6_runScript_35 (by decide) ?_
          refine r_ldc2 (pc := 36) (v := 3) dX6_runScript_36 cX6_41 ?_
          obtain ⟨m202, x203, q204, h⟩ := gCl_some h
          refine r_callS (pc := 39) [.long _, .long _, .long _] (tX6_in _ _ _ hF _ _ _ _ _ q204) ⟨rfl, rfl⟩ cd_X6_in wX6_37 nm_X6_in rfl (by rw [hRm]; decide) rfl (Nat.le_of_ble_eq_true rfl) dX6_runScript_39 ?_
          refine r_if_eq (pc := 42) (tgt := 61) dX6_runScript_42 (by decide) h (fun h => ?_) (fun h => ?_)
          · refine r_iconst (pc := 61) (v := 1) dX6_runScript_61 (by decide) ?_
            obtain ⟨m205, x206, q207, h⟩ := gCl_some h
            refine r_callV (kd := 5) (pc := 62) [.int _] (tX6_refused _ _ _ hF _ _ _ q207) ⟨rfl, rfl⟩ cd_X6_refused wX6_108 nm_X6_refused rfl (by rw [hRm]; decide) rfl (Nat.le_of_ble_eq_true rfl) rfl (by decide) (gO5 hF) dX6_runScript_62 ?_
            refine r_if_eq (pc := 65) (tgt := 70) dX6_runScript_65 (by decide) h (fun h => ?_) (fun h => ?_)
            · refine r_aload_n (pc := 70) dX6_runScript_70 rfl rfl ?_
              refine fX6_13 (pc := 71) hF dX6_runScript_71 (fun b208 => ?_)
              refine r_iconst (pc := 74) (v := 0) dX6_runScript_74 (by decide) ?_
              refine r_aload_n (pc := 75) dX6_runScript_75 rfl rfl ?_
              refine fX6_16 (pc := 76) hF dX6_runScript_76 (fun b209 => ?_)
              refine r_iconst (pc := 79) (v := 0) dX6_runScript_79 (by decide) ?_
              obtain ⟨m210, q212, h⟩ := gCv_some h
              refine r_callS (pc := 80) [.ref _, .int _, .ref _, .int _] (tX6_copyState _ _ _ hF _ _ _ _ _ _ _ _ q212 b208 b209) ⟨rfl, rfl⟩ cd_X6_copyState wX6_183 nm_X6_copyState rfl (by rw [hRm]; decide) rfl (Nat.le_of_ble_eq_true rfl) dX6_runScript_80 ?_
              refine r_iconst (pc := 83) (v := 0) dX6_runScript_83 (by decide) ?_
              refine r_istore (pc := 84) dX6_runScript_84 (by rw [hnL]; decide) rfl ?_
              have L215 : ∀ (n213 : Nat) (v216 : Int64) (v217 : Int32) (m218 : gM), fX6_runScript_L86 p1 p2 (fX6_runScript_L6 p1 p2 n133) n213 v216 v217 m218 = some o → AW Y cX6_runScript RX6 86 [some (.ref 5693), some (.int p1), some (.long p2), none, some (.long v216), none, some (.int v217), none] [] m218 := by
                intro n213
                induction n213 with
                | zero =>
                  intro v216 v217 m218 h
                  exact absurd h (by simp [fX6_runScript_L86])
                | succ n213 ih214 =>
                  intro v216 v217 m218 h
                  rw [fX6_runScript_L86] at h
                  refine r_iload (pc := 86) dX6_runScript_86 rfl ?_
                  refine r_iload_n (pc := 88) dX6_runScript_88 rfl rfl ?_
                  refine r_icmp_ge (pc := 89) (tgt := 137) dX6_runScript_89 (by decide) h (fun h => ?_) (fun h => ?_)
                  · refine r_iconst (pc := 137) (v := (-1)) dX6_runScript_137 (by decide) ?_
                    exact r_iretH dX6_runScript_138 h he
                  · refine r_lload (pc := 92) dX6_runScript_92 rfl ?_
                    refine r_ldc2 (pc := 94) (v := 1000000) dX6_runScript_94 cX6_233 ?_
                    refine r_ldivc (pc := 97) dX6_runScript_97 (by decide) ?_
                    refine r_lstore (pc := 98) dX6_runScript_98 (by rw [hnL]; decide) rfl ?_
                    refine r_lload_n (pc := 100) dX6_runScript_100 rfl rfl ?_
                    refine r_lload (pc := 101) dX6_runScript_101 rfl ?_
                    refine r_ldiv (pc := 103) dX6_runScript_103 h (fun h => ?_)
                    refine r_ldc2 (pc := 104) (v := 1000000) dX6_runScript_104 cX6_233 ?_
                    refine r_lremc (pc := 107) dX6_runScript_107 (by decide) ?_
                    refine r_l2i (pc := 108) dX6_runScript_108 ?_
                    refine r_istoreL (pc := 109) dX6_runScript_109 (by rw [hnL]; decide) h (fun x219 h => ?_)
                    refine r_aload_n (pc := 111) dX6_runScript_111 rfl rfl ?_
                    refine r_iload (pc := 112) dX6_runScript_112 rfl ?_
                    refine r_ldc (pc := 114) (v := 100000) dX6_runScript_114 cX6_235 ?_
                    refine r_idivc (pc := 116) dX6_runScript_116 (by decide) ?_
                    refine r_iload (pc := 117) dX6_runScript_117 rfl ?_
                    refine r_ldc (pc := 119) (v := 100000) dX6_runScript_119 cX6_235 ?_
                    refine r_iremc (pc := 121) dX6_runScript_121 (by decide) ?_
                    obtain ⟨m220, x221, q222, h⟩ := gCl_some h
                    refine r_callV (kd := 5) (pc := 122) [.int _, .int _] (tX6_command _ _ _ hF _ _ _ _ q222) ⟨rfl, rfl⟩ cd_X6_command wX6_236 nm_X6_command rfl (by rw [hRm]; decide) rfl (Nat.le_of_ble_eq_true rfl) rfl (by decide) (gO5 hF) dX6_runScript_122 ?_
                    refine r_if_ne (pc := 125) (tgt := 131) dX6_runScript_125 (by decide) h (fun h => ?_) (fun h => ?_)
                    · refine r_iinc (pc := 131) (d := 1) dX6_runScript_131 rfl (by decide) (by rw [hnL]; decide) h (fun x223 h => ?_)
                      refine r_goto (pc := 134) (tgt := 86) dX6_runScript_134 (by decide) ?_
                      exact r_mask [true, true, true, false, true, false, true, false] rfl (ih214 _ _ _ h)
                    · refine r_iload (pc := 128) dX6_runScript_128 rfl ?_
                      exact r_iretH dX6_runScript_130 h he
              exact r_mask [true, true, true, false, true, false, true, false] rfl (L215 _ _ _ _ h)
            · refine r_iconst (pc := 68) (v := 0) dX6_runScript_68 (by decide) ?_
              exact r_iretH dX6_runScript_69 h he
          · refine r_lload_n (pc := 45) dX6_runScript_45 rfl rfl ?_
            refine r_lconst (pc := 46) (v := 0) dX6_runScript_46 (by decide) ?_
            refine r_lload (pc := 47) dX6_runScript_47 rfl ?_
            refine r_lconst (pc := 49) (v := 1) dX6_runScript_49 (by decide) ?_
            refine r_lsub (pc := 50) dX6_runScript_50 ?_
            obtain ⟨m224, x225, q226, h⟩ := gCl_some h
            refine r_callS (pc := 51) [.long _, .long _, .long _] (tX6_in _ _ _ hF _ _ _ _ _ q226) ⟨rfl, rfl⟩ cd_X6_in wX6_37 nm_X6_in rfl (by rw [hRm]; decide) rfl (Nat.le_of_ble_eq_true rfl) dX6_runScript_51 ?_
            refine r_if_eq (pc := 54) (tgt := 61) dX6_runScript_54 (by decide) h (fun h => ?_) (fun h => ?_)
            · refine r_iconst (pc := 61) (v := 1) dX6_runScript_61 (by decide) ?_
              obtain ⟨m227, x228, q229, h⟩ := gCl_some h
              refine r_callV (kd := 5) (pc := 62) [.int _] (tX6_refused _ _ _ hF _ _ _ q229) ⟨rfl, rfl⟩ cd_X6_refused wX6_108 nm_X6_refused rfl (by rw [hRm]; decide) rfl (Nat.le_of_ble_eq_true rfl) rfl (by decide) (gO5 hF) dX6_runScript_62 ?_
              refine r_if_eq (pc := 65) (tgt := 70) dX6_runScript_65 (by decide) h (fun h => ?_) (fun h => ?_)
              · refine r_aload_n (pc := 70) dX6_runScript_70 rfl rfl ?_
                refine fX6_13 (pc := 71) hF dX6_runScript_71 (fun b230 => ?_)
                refine r_iconst (pc := 74) (v := 0) dX6_runScript_74 (by decide) ?_
                refine r_aload_n (pc := 75) dX6_runScript_75 rfl rfl ?_
                refine fX6_16 (pc := 76) hF dX6_runScript_76 (fun b231 => ?_)
                refine r_iconst (pc := 79) (v := 0) dX6_runScript_79 (by decide) ?_
                obtain ⟨m232, q234, h⟩ := gCv_some h
                refine r_callS (pc := 80) [.ref _, .int _, .ref _, .int _] (tX6_copyState _ _ _ hF _ _ _ _ _ _ _ _ q234 b230 b231) ⟨rfl, rfl⟩ cd_X6_copyState wX6_183 nm_X6_copyState rfl (by rw [hRm]; decide) rfl (Nat.le_of_ble_eq_true rfl) dX6_runScript_80 ?_
                refine r_iconst (pc := 83) (v := 0) dX6_runScript_83 (by decide) ?_
                refine r_istore (pc := 84) dX6_runScript_84 (by rw [hnL]; decide) rfl ?_
                have L237 : ∀ (n235 : Nat) (v238 : Int64) (v239 : Int32) (m240 : gM), fX6_runScript_L86 p1 p2 (fX6_runScript_L6 p1 p2 n133) n235 v238 v239 m240 = some o → AW Y cX6_runScript RX6 86 [some (.ref 5693), some (.int p1), some (.long p2), none, some (.long v238), none, some (.int v239), none] [] m240 := by
                  intro n235
                  induction n235 with
                  | zero =>
                    intro v238 v239 m240 h
                    exact absurd h (by simp [fX6_runScript_L86])
                  | succ n235 ih236 =>
                    intro v238 v239 m240 h
                    rw [fX6_runScript_L86] at h
                    refine r_iload (pc := 86) dX6_runScript_86 rfl ?_
                    refine r_iload_n (pc := 88) dX6_runScript_88 rfl rfl ?_
                    refine r_icmp_ge (pc := 89) (tgt := 137) dX6_runScript_89 (by decide) h (fun h => ?_) (fun h => ?_)
                    · refine r_iconst (pc := 137) (v := (-1)) dX6_runScript_137 (by decide) ?_
                      exact r_iretH dX6_runScript_138 h he
                    · refine r_lload (pc := 92) dX6_runScript_92 rfl ?_
                      refine r_ldc2 (pc := 94) (v := 1000000) dX6_runScript_94 cX6_233 ?_
                      refine r_ldivc (pc := 97) dX6_runScript_97 (by decide) ?_
                      refine r_lstore (pc := 98) dX6_runScript_98 (by rw [hnL]; decide) rfl ?_
                      refine r_lload_n (pc := 100) dX6_runScript_100 rfl rfl ?_
                      refine r_lload (pc := 101) dX6_runScript_101 rfl ?_
                      refine r_ldiv (pc := 103) dX6_runScript_103 h (fun h => ?_)
                      refine r_ldc2 (pc := 104) (v := 1000000) dX6_runScript_104 cX6_233 ?_
                      refine r_lremc (pc := 107) dX6_runScript_107 (by decide) ?_
                      refine r_l2i (pc := 108) dX6_runScript_108 ?_
                      refine r_istoreL (pc := 109) dX6_runScript_109 (by rw [hnL]; decide) h (fun x241 h => ?_)
                      refine r_aload_n (pc := 111) dX6_runScript_111 rfl rfl ?_
                      refine r_iload (pc := 112) dX6_runScript_112 rfl ?_
                      refine r_ldc (pc := 114) (v := 100000) dX6_runScript_114 cX6_235 ?_
                      refine r_idivc (pc := 116) dX6_runScript_116 (by decide) ?_
                      refine r_iload (pc := 117) dX6_runScript_117 rfl ?_
                      refine r_ldc (pc := 119) (v := 100000) dX6_runScript_119 cX6_235 ?_
                      refine r_iremc (pc := 121) dX6_runScript_121 (by decide) ?_
                      obtain ⟨m242, x243, q244, h⟩ := gCl_some h
                      refine r_callV (kd := 5) (pc := 122) [.int _, .int _] (tX6_command _ _ _ hF _ _ _ _ q244) ⟨rfl, rfl⟩ cd_X6_command wX6_236 nm_X6_command rfl (by rw [hRm]; decide) rfl (Nat.le_of_ble_eq_true rfl) rfl (by decide) (gO5 hF) dX6_runScript_122 ?_
                      refine r_if_ne (pc := 125) (tgt := 131) dX6_runScript_125 (by decide) h (fun h => ?_) (fun h => ?_)
                      · refine r_iinc (pc := 131) (d := 1) dX6_runScript_131 rfl (by decide) (by rw [hnL]; decide) h (fun x245 h => ?_)
                        refine r_goto (pc := 134) (tgt := 86) dX6_runScript_134 (by decide) ?_
                        exact r_mask [true, true, true, false, true, false, true, false] rfl (ih236 _ _ _ h)
                      · refine r_iload (pc := 128) dX6_runScript_128 rfl ?_
                        exact r_iretH dX6_runScript_130 h he
                exact r_mask [true, true, true, false, true, false, true, false] rfl (L237 _ _ _ _ h)
              · refine r_iconst (pc := 68) (v := 0) dX6_runScript_68 (by decide) ?_
                exact r_iretH dX6_runScript_69 h he
            · refine r_iconst (pc := 57) (v := 0) dX6_runScript_57 (by decide) ?_
              refine r_goto (pc := 58) (tgt := 62) dX6_runScript_58 (by decide) ?_
              obtain ⟨m246, x247, q248, h⟩ := gCl_some h
              refine r_callV (kd := 5) (pc := 62) [.int _] (tX6_refused _ _ _ hF _ _ _ q248) ⟨rfl, rfl⟩ cd_X6_refused wX6_108 nm_X6_refused rfl (by rw [hRm]; decide) rfl (Nat.le_of_ble_eq_true rfl) rfl (by decide) (gO5 hF) dX6_runScript_62 ?_
              refine r_if_eq (pc := 65) (tgt := 70) dX6_runScript_65 (by decide) h (fun h => ?_) (fun h => ?_)
              · refine r_aload_n (pc := 70) dX6_runScript_70 rfl rfl ?_
                refine fX6_13 (pc := 71) hF dX6_runScript_71 (fun b249 => ?_)
                refine r_iconst (pc := 74) (v := 0) dX6_runScript_74 (by decide) ?_
                refine r_aload_n (pc := 75) dX6_runScript_75 rfl rfl ?_
                refine fX6_16 (pc := 76) hF dX6_runScript_76 (fun b250 => ?_)
                refine r_iconst (pc := 79) (v := 0) dX6_runScript_79 (by decide) ?_
                obtain ⟨m251, q253, h⟩ := gCv_some h
                refine r_callS (pc := 80) [.ref _, .int _, .ref _, .int _] (tX6_copyState _ _ _ hF _ _ _ _ _ _ _ _ q253 b249 b250) ⟨rfl, rfl⟩ cd_X6_copyState wX6_183 nm_X6_copyState rfl (by rw [hRm]; decide) rfl (Nat.le_of_ble_eq_true rfl) dX6_runScript_80 ?_
                refine r_iconst (pc := 83) (v := 0) dX6_runScript_83 (by decide) ?_
                refine r_istore (pc := 84) dX6_runScript_84 (by rw [hnL]; decide) rfl ?_
                have L256 : ∀ (n254 : Nat) (v257 : Int64) (v258 : Int32) (m259 : gM), fX6_runScript_L86 p1 p2 (fX6_runScript_L6 p1 p2 n133) n254 v257 v258 m259 = some o → AW Y cX6_runScript RX6 86 [some (.ref 5693), some (.int p1), some (.long p2), none, some (.long v257), none, some (.int v258), none] [] m259 := by
                  intro n254
                  induction n254 with
                  | zero =>
                    intro v257 v258 m259 h
                    exact absurd h (by simp [fX6_runScript_L86])
                  | succ n254 ih255 =>
                    intro v257 v258 m259 h
                    rw [fX6_runScript_L86] at h
                    refine r_iload (pc := 86) dX6_runScript_86 rfl ?_
                    refine r_iload_n (pc := 88) dX6_runScript_88 rfl rfl ?_
                    refine r_icmp_ge (pc := 89) (tgt := 137) dX6_runScript_89 (by decide) h (fun h => ?_) (fun h => ?_)
                    · refine r_iconst (pc := 137) (v := (-1)) dX6_runScript_137 (by decide) ?_
                      exact r_iretH dX6_runScript_138 h he
                    · refine r_lload (pc := 92) dX6_runScript_92 rfl ?_
                      refine r_ldc2 (pc := 94) (v := 1000000) dX6_runScript_94 cX6_233 ?_
                      refine r_ldivc (pc := 97) dX6_runScript_97 (by decide) ?_
                      refine r_lstore (pc := 98) dX6_runScript_98 (by rw [hnL]; decide) rfl ?_
                      refine r_lload_n (pc := 100) dX6_runScript_100 rfl rfl ?_
                      refine r_lload (pc := 101) dX6_runScript_101 rfl ?_
                      refine r_ldiv (pc := 103) dX6_runScript_103 h (fun h => ?_)
                      refine r_ldc2 (pc := 104) (v := 1000000) dX6_runScript_104 cX6_233 ?_
                      refine r_lremc (pc := 107) dX6_runScript_107 (by decide) ?_
                      refine r_l2i (pc := 108) dX6_runScript_108 ?_
                      refine r_istoreL (pc := 109) dX6_runScript_109 (by rw [hnL]; decide) h (fun x260 h => ?_)
                      refine r_aload_n (pc := 111) dX6_runScript_111 rfl rfl ?_
                      refine r_iload (pc := 112) dX6_runScript_112 rfl ?_
                      refine r_ldc (pc := 114) (v := 100000) dX6_runScript_114 cX6_235 ?_
                      refine r_idivc (pc := 116) dX6_runScript_116 (by decide) ?_
                      refine r_iload (pc := 117) dX6_runScript_117 rfl ?_
                      refine r_ldc (pc := 119) (v := 100000) dX6_runScript_119 cX6_235 ?_
                      refine r_iremc (pc := 121) dX6_runScript_121 (by decide) ?_
                      obtain ⟨m261, x262, q263, h⟩ := gCl_some h
                      refine r_callV (kd := 5) (pc := 122) [.int _, .int _] (tX6_command _ _ _ hF _ _ _ _ q263) ⟨rfl, rfl⟩ cd_X6_command wX6_236 nm_X6_command rfl (by rw [hRm]; decide) rfl (Nat.le_of_ble_eq_true rfl) rfl (by decide) (gO5 hF) dX6_runScript_122 ?_
                      refine r_if_ne (pc := 125) (tgt := 131) dX6_runScript_125 (by decide) h (fun h => ?_) (fun h => ?_)
                      · refine r_iinc (pc := 131) (d := 1) dX6_runScript_131 rfl (by decide) (by rw [hnL]; decide) h (fun x264 h => ?_)
                        refine r_goto (pc := 134) (tgt := 86) dX6_runScript_134 (by decide) ?_
                        exact r_mask [true, true, true, false, true, false, true, false] rfl (ih255 _ _ _ h)
                      · refine r_iload (pc := 128) dX6_runScript_128 rfl ?_
                        exact r_iretH dX6_runScript_130 h he
                exact r_mask [true, true, true, false, true, false, true, false] rfl (L256 _ _ _ _ h)
              · refine r_iconst (pc := 68) (v := 0) dX6_runScript_68 (by decide) ?_
                exact r_iretH dX6_runScript_69 h he
        · refine r_lload (pc := 18) dX6_runScript_18 rfl ?_
          refine r_ldc2 (pc := 20) (v := 1000000) dX6_runScript_20 cX6_233 ?_
          refine r_lmul (pc := 23) dX6_runScript_23 ?_
          refine r_lstore (pc := 24) dX6_runScript_24 (by rw [hnL]; decide) rfl ?_
          refine r_iinc (pc := 26) (d := 1) dX6_runScript_26 rfl (by decide) (by rw [hnL]; decide) h (fun x265 h => ?_)
          refine r_goto (pc := 29) (tgt := 6) dX6_runScript_29 (by decide) ?_
          exact r_mask [true, true, true, false, true, false, true, false] rfl (ih134 _ _ _ h)
  exact r_mask [true, true, true, false, true, false, true, false] rfl (L135 _ _ _ _ h)
def fX6_turnCustomer (a1 a1n : Nat) (p2 : Int32) (p3 : Int32) (m : gM) : Option (gM) := gLt ((p3 - p3 / 10 * 10)) fun x1 => (if p2 = 0 then gRd m a1 a1n 0 fun x19 => (if 10 ≤ x19 then some m else gCl (fX6_customerOn a1 a1n (p3 - p3 / 4 * 4) ((p3 / 4) - (p3 / 4) / 10000000 * 10000000) m) fun m20 x21 => some m20) else gCl (fX6_isCustomer a1 a1n x1 m) fun m2 x3 => (if x3 = 0 then some m2 else (if p2 = 1 then gCl (fX6_changeOn a1 a1n x1 ((p3 / 16) - (p3 / 16) / 7 * 7) ((p3 / 128) - (p3 / 128) / 10 * 10) m2) fun m16 x17 => some m16 else gRd m2 a1 a1n 1 fun x5 => gLt ((x5 + ((p3 / 16) - (p3 / 16) / 20 * 20))) fun x6 => gCl (fX6_isSpan x6 (x6 + ((p3 / 512) - (p3 / 512) / 9 * 9)) m2) fun m7 x8 => (if x8 = 0 then some m7 else gCl (fX6_of a1 a1n x1 14 m7) fun m10 x11 => (if 3 ≤ x11 then some m10 else gCl (fX6_holidayOn a1 a1n x1 x6 (x6 + ((p3 / 512) - (p3 / 512) / 9 * 9)) m10) fun m13 x14 => some m13)))))
abbrev rmX6_turnCustomer : Room := { frames := 2, cells := 0, slots := 0, locals := 48 }
set_option maxHeartbeats 4000000 in
set_option maxRecDepth 100000 in
theorem tX6_turnCustomer (l : Launch) (G : gX) (u : gU) (hF : gFull u) (a1 a1n : Nat) (p2 : Int32) (p3 : Int32) (m : gM) (o : gM) (h : fX6_turnCustomer a1 a1n p2 p3 m = some o) (h1 : gIn u a1 7 a1n) : gMet l G u yX6_turnCustomer (.code yX6_turnCustomer cX6_turnCustomer 5 none) rmX6_turnCustomer [.ref a1, .int p2, .int p3] m o none := by
  refine gMet_of (own := RX6) (k := 2) (by decide) rfl ⟨rfl, rfl⟩ (Nat.le_of_ble_eq_true rfl) [some (.ref a1), some (.int p2), some (.int p3), none, none] rfl (fun Y hG hu hnL hLn hRm he => ?_)
  subst hG hu hLn
  unfold fX6_turnCustomer at h
  refine r_iload_n (pc := 0) dX6_turnCustomer_0 rfl rfl ?_
  refine r_bipush (pc := 1) (v := 10) dX6_turnCustomer_1 (by decide) ?_
  refine r_iremc (pc := 3) dX6_turnCustomer_3 (by decide) ?_
  refine r_istore_nL (pc := 4) dX6_turnCustomer_4 rfl (by rw [hnL]; decide) h (fun x1 h => ?_)
  refine r_iload_n (pc := 5) dX6_turnCustomer_5 rfl rfl ?_
  refine r_if_ne (pc := 6) (tgt := 34) dX6_turnCustomer_6 (by decide) h (fun h => ?_) (fun h => ?_)
  · refine r_aload_n (pc := 34) dX6_turnCustomer_34 rfl rfl ?_
    refine r_iload_n (pc := 35) dX6_turnCustomer_35 rfl rfl ?_
    obtain ⟨m2, x3, q4, h⟩ := gCl_some h
    refine r_callS (pc := 36) [.ref _, .int _] (tX6_isCustomer _ _ _ hF _ _ _ _ _ q4 h1) ⟨rfl, rfl⟩ cd_X6_isCustomer wX6_139 nm_X6_isCustomer rfl (by rw [hRm]; decide) rfl (Nat.le_of_ble_eq_true rfl) dX6_turnCustomer_36 ?_
    refine r_if_ne (pc := 39) (tgt := 43) dX6_turnCustomer_39 (by decide) h (fun h => ?_) (fun h => ?_)
    · refine r_iload_n (pc := 43) dX6_turnCustomer_43 rfl rfl ?_
      refine r_iconst (pc := 44) (v := 1) dX6_turnCustomer_44 (by decide) ?_
      refine r_icmp_ne (pc := 45) (tgt := 72) dX6_turnCustomer_45 (by decide) h (fun h => ?_) (fun h => ?_)
      · refine r_aload_n (pc := 72) dX6_turnCustomer_72 rfl rfl ?_
        refine r_iconst (pc := 73) (v := 1) dX6_turnCustomer_73 (by decide) ?_
        refine r_iald (pc := 74) dX6_turnCustomer_74 h1 h (fun x5 h => ?_)
        refine r_iload_n (pc := 75) dX6_turnCustomer_75 rfl rfl ?_
        refine r_bipush (pc := 76) (v := 16) dX6_turnCustomer_76 (by decide) ?_
        refine r_idivc (pc := 78) dX6_turnCustomer_78 (by decide) ?_
        refine r_bipush (pc := 79) (v := 20) dX6_turnCustomer_79 (by decide) ?_
        refine r_iremc (pc := 81) dX6_turnCustomer_81 (by decide) ?_
        refine r_iadd (pc := 82) dX6_turnCustomer_82 ?_
        refine r_istoreL (pc := 83) dX6_turnCustomer_83 (by rw [hnL]; decide) h (fun x6 h => ?_)
        refine r_iload (pc := 85) dX6_turnCustomer_85 rfl ?_
        refine r_iload (pc := 87) dX6_turnCustomer_87 rfl ?_
        refine r_iload_n (pc := 89) dX6_turnCustomer_89 rfl rfl ?_
        refine r_sipush (pc := 90) (v := 512) dX6_turnCustomer_90 (by decide) ?_
        refine r_idivc (pc := 93) dX6_turnCustomer_93 (by decide) ?_
        refine r_bipush (pc := 94) (v := 9) dX6_turnCustomer_94 (by decide) ?_
        refine r_iremc (pc := 96) dX6_turnCustomer_96 (by decide) ?_
        refine r_iadd (pc := 97) dX6_turnCustomer_97 ?_
        obtain ⟨m7, x8, q9, h⟩ := gCl_some h
        refine r_callS (pc := 98) [.int _, .int _] (tX6_isSpan _ _ _ hF _ _ _ _ q9) ⟨rfl, rfl⟩ cd_X6_isSpan wX6_217 nm_X6_isSpan rfl (by rw [hRm]; decide) rfl (Nat.le_of_ble_eq_true rfl) dX6_turnCustomer_98 ?_
        refine r_if_eq (pc := 101) (tgt := 134) dX6_turnCustomer_101 (by decide) h (fun h => ?_) (fun h => ?_)
        · exact r_vretH dX6_turnCustomer_134 h he
        · refine r_aload_n (pc := 104) dX6_turnCustomer_104 rfl rfl ?_
          refine r_iload_n (pc := 105) dX6_turnCustomer_105 rfl rfl ?_
          refine r_bipush (pc := 106) (v := 14) dX6_turnCustomer_106 (by decide) ?_
          obtain ⟨m10, x11, q12, h⟩ := gCl_some h
          refine r_callS (pc := 108) [.ref _, .int _, .int _] (tX6_of _ _ _ hF _ _ _ _ _ _ q12 h1) ⟨rfl, rfl⟩ cd_X6_of wX6_53 nm_X6_of rfl (by rw [hRm]; decide) rfl (Nat.le_of_ble_eq_true rfl) dX6_turnCustomer_108 ?_
          refine r_iconst (pc := 111) (v := 3) dX6_turnCustomer_111 (by decide) ?_
          refine r_icmp_ge (pc := 112) (tgt := 134) dX6_turnCustomer_112 (by decide) h (fun h => ?_) (fun h => ?_)
          · exact r_vretH dX6_turnCustomer_134 h he
          · refine r_aload_n (pc := 115) dX6_turnCustomer_115 rfl rfl ?_
            refine r_iload_n (pc := 116) dX6_turnCustomer_116 rfl rfl ?_
            refine r_iload (pc := 117) dX6_turnCustomer_117 rfl ?_
            refine r_iload (pc := 119) dX6_turnCustomer_119 rfl ?_
            refine r_iload_n (pc := 121) dX6_turnCustomer_121 rfl rfl ?_
            refine r_sipush (pc := 122) (v := 512) dX6_turnCustomer_122 (by decide) ?_
            refine r_idivc (pc := 125) dX6_turnCustomer_125 (by decide) ?_
            refine r_bipush (pc := 126) (v := 9) dX6_turnCustomer_126 (by decide) ?_
            refine r_iremc (pc := 128) dX6_turnCustomer_128 (by decide) ?_
            refine r_iadd (pc := 129) dX6_turnCustomer_129 ?_
            obtain ⟨m13, x14, q15, h⟩ := gCl_some h
            refine r_callS (pc := 130) [.ref _, .int _, .int _, .int _] (tX6_holidayOn _ _ _ hF _ _ _ _ _ _ _ q15 h1) ⟨rfl, rfl⟩ cd_X6_holidayOn wX6_146 nm_X6_holidayOn rfl (by rw [hRm]; decide) rfl (Nat.le_of_ble_eq_true rfl) dX6_turnCustomer_130 ?_
            refine r_pop (pc := 133) dX6_turnCustomer_133 rfl ?_
            exact r_vretH dX6_turnCustomer_134 h he
      · refine r_aload_n (pc := 48) dX6_turnCustomer_48 rfl rfl ?_
        refine r_iload_n (pc := 49) dX6_turnCustomer_49 rfl rfl ?_
        refine r_iload_n (pc := 50) dX6_turnCustomer_50 rfl rfl ?_
        refine r_bipush (pc := 51) (v := 16) dX6_turnCustomer_51 (by decide) ?_
        refine r_idivc (pc := 53) dX6_turnCustomer_53 (by decide) ?_
        refine r_bipush (pc := 54) (v := 7) dX6_turnCustomer_54 (by decide) ?_
        refine r_iremc (pc := 56) dX6_turnCustomer_56 (by decide) ?_
        refine r_iload_n (pc := 57) dX6_turnCustomer_57 rfl rfl ?_
        refine r_sipush (pc := 58) (v := 128) dX6_turnCustomer_58 (by decide) ?_
        refine r_idivc (pc := 61) dX6_turnCustomer_61 (by decide) ?_
        refine r_bipush (pc := 62) (v := 10) dX6_turnCustomer_62 (by decide) ?_
        refine r_iremc (pc := 64) dX6_turnCustomer_64 (by decide) ?_
        obtain ⟨m16, x17, q18, h⟩ := gCl_some h
        refine r_callS (pc := 65) [.ref _, .int _, .int _, .int _] (tX6_changeOn _ _ _ hF _ _ _ _ _ _ _ q18 h1) ⟨rfl, rfl⟩ cd_X6_changeOn wX6_143 nm_X6_changeOn rfl (by rw [hRm]; decide) rfl (Nat.le_of_ble_eq_true rfl) dX6_turnCustomer_65 ?_
        refine r_pop (pc := 68) dX6_turnCustomer_68 rfl ?_
        refine r_goto (pc := 69) (tgt := 134) dX6_turnCustomer_69 (by decide) ?_
        exact r_vretH dX6_turnCustomer_134 h he
    · exact r_vretH dX6_turnCustomer_42 h he
  · refine r_aload_n (pc := 9) dX6_turnCustomer_9 rfl rfl ?_
    refine r_iconst (pc := 10) (v := 0) dX6_turnCustomer_10 (by decide) ?_
    refine r_iald (pc := 11) dX6_turnCustomer_11 h1 h (fun x19 h => ?_)
    refine r_bipush (pc := 12) (v := 10) dX6_turnCustomer_12 (by decide) ?_
    refine r_icmp_ge (pc := 14) (tgt := 134) dX6_turnCustomer_14 (by decide) h (fun h => ?_) (fun h => ?_)
    · exact r_vretH dX6_turnCustomer_134 h he
    · refine r_aload_n (pc := 17) dX6_turnCustomer_17 rfl rfl ?_
      refine r_iload_n (pc := 18) dX6_turnCustomer_18 rfl rfl ?_
      refine r_iconst (pc := 19) (v := 4) dX6_turnCustomer_19 (by decide) ?_
      refine r_iremc (pc := 20) dX6_turnCustomer_20 (by decide) ?_
      refine r_iload_n (pc := 21) dX6_turnCustomer_21 rfl rfl ?_
      refine r_iconst (pc := 22) (v := 4) dX6_turnCustomer_22 (by decide) ?_
      refine r_idivc (pc := 23) dX6_turnCustomer_23 (by decide) ?_
      refine r_ldc (pc := 24) (v := 10000000) dX6_turnCustomer_24 cX6_239 ?_
      refine r_iremc (pc := 26) dX6_turnCustomer_26 (by decide) ?_
      obtain ⟨m20, x21, q22, h⟩ := gCl_some h
      refine r_callS (pc := 27) [.ref _, .int _, .int _] (tX6_customerOn _ _ _ hF _ _ _ _ _ _ q22 h1) ⟨rfl, rfl⟩ cd_X6_customerOn wX6_128 nm_X6_customerOn rfl (by rw [hRm]; decide) rfl (Nat.le_of_ble_eq_true rfl) dX6_turnCustomer_27 ?_
      refine r_pop (pc := 30) dX6_turnCustomer_30 rfl ?_
      refine r_goto (pc := 31) (tgt := 134) dX6_turnCustomer_31 (by decide) ?_
      exact r_vretH dX6_turnCustomer_134 h he
def fX6_turnOf (a1 a1n : Nat) (p2 : Int32) (p3 : Int32) (m : gM) : Option (gM) := (if 3 ≤ p2 then (if p2 = 3 then (if ((p3 / 32) - (p3 / 32) / 3 * 3) = 0 then gCl (fX6_closeOn a1 a1n (p3 - p3 / 4 * 4) ((p3 / 4) - (p3 / 4) / 7 * 7) 1 m) fun m15 x16 => some m15 else gCl (fX6_closeOn a1 a1n (p3 - p3 / 4 * 4) ((p3 / 4) - (p3 / 4) / 7 * 7) 0 m) fun m12 x13 => some m12) else (if p2 = 4 then gCl (fX6_swapOn a1 a1n (p3 - p3 / 4 * 4) ((p3 / 4) - (p3 / 4) / 4 * 4) m) fun m9 x10 => some m9 else (if p2 ≤ 5 then (if ((p3 / 128) - (p3 / 128) / 2 * 2) = 0 then gWr m a1 a1n 11 (p3 - p3 / 100 * 100) fun m5 => some m5 else gCl (fX6_isSetting (1 + (p3 - p3 / 3 * 3)) ((p3 / 4) - (p3 / 4) / 10 * 10) m) fun m1 x2 => (if x2 = 0 then some m1 else gWr m1 a1 a1n (12 + (p3 - p3 / 3 * 3)) ((p3 / 4) - (p3 / 4) / 10 * 10) fun m4 => some m4)) else gCl (fX6_daysOn a1 a1n (1 + (p3 - p3 / 9 * 9)) m) fun m6 x7 => some m6))) else gCv (fX6_turnCustomer a1 a1n p2 p3 m) fun m18 => some m18)
abbrev rmX6_turnOf : Room := { frames := 7, cells := 0, slots := 0, locals := 162 }
set_option maxHeartbeats 4000000 in
set_option maxRecDepth 100000 in
theorem tX6_turnOf (l : Launch) (G : gX) (u : gU) (hF : gFull u) (a1 a1n : Nat) (p2 : Int32) (p3 : Int32) (m : gM) (o : gM) (h : fX6_turnOf a1 a1n p2 p3 m = some o) (h1 : gIn u a1 7 a1n) : gMet l G u yX6_turnOf (.code yX6_turnOf cX6_turnOf 3 none) rmX6_turnOf [.ref a1, .int p2, .int p3] m o none := by
  refine gMet_of (own := RX6) (k := 0) (by decide) rfl ⟨rfl, rfl⟩ (Nat.le_of_ble_eq_true rfl) [some (.ref a1), some (.int p2), some (.int p3)] rfl (fun Y hG hu hnL hLn hRm he => ?_)
  subst hG hu hLn
  unfold fX6_turnOf at h
  refine r_iload_n (pc := 0) dX6_turnOf_0 rfl rfl ?_
  refine r_iconst (pc := 1) (v := 3) dX6_turnOf_1 (by decide) ?_
  refine r_icmp_ge (pc := 2) (tgt := 14) dX6_turnOf_2 (by decide) h (fun h => ?_) (fun h => ?_)
  · refine r_iload_n (pc := 14) dX6_turnOf_14 rfl rfl ?_
    refine r_iconst (pc := 15) (v := 3) dX6_turnOf_15 (by decide) ?_
    refine r_icmp_ne (pc := 16) (tgt := 50) dX6_turnOf_16 (by decide) h (fun h => ?_) (fun h => ?_)
    · refine r_iload_n (pc := 50) dX6_turnOf_50 rfl rfl ?_
      refine r_iconst (pc := 51) (v := 4) dX6_turnOf_51 (by decide) ?_
      refine r_icmp_ne (pc := 52) (tgt := 71) dX6_turnOf_52 (by decide) h (fun h => ?_) (fun h => ?_)
      · refine r_iload_n (pc := 71) dX6_turnOf_71 rfl rfl ?_
        refine r_iconst (pc := 72) (v := 5) dX6_turnOf_72 (by decide) ?_
        refine r_icmp_le (pc := 73) (tgt := 90) dX6_turnOf_73 (by decide) h (fun h => ?_) (fun h => ?_)
        · refine r_iload_n (pc := 90) dX6_turnOf_90 rfl rfl ?_
          refine r_sipush (pc := 91) (v := 128) dX6_turnOf_91 (by decide) ?_
          refine r_idivc (pc := 94) dX6_turnOf_94 (by decide) ?_
          refine r_iconst (pc := 95) (v := 2) dX6_turnOf_95 (by decide) ?_
          refine r_iremc (pc := 96) dX6_turnOf_96 (by decide) ?_
          refine r_if_ne (pc := 97) (tgt := 111) dX6_turnOf_97 (by decide) h (fun h => ?_) (fun h => ?_)
          · refine r_iconst (pc := 111) (v := 1) dX6_turnOf_111 (by decide) ?_
            refine r_iload_n (pc := 112) dX6_turnOf_112 rfl rfl ?_
            refine r_iconst (pc := 113) (v := 3) dX6_turnOf_113 (by decide) ?_
            refine r_iremc (pc := 114) dX6_turnOf_114 (by decide) ?_
            refine r_iadd (pc := 115) dX6_turnOf_115 ?_
            refine r_iload_n (pc := 116) dX6_turnOf_116 rfl rfl ?_
            refine r_iconst (pc := 117) (v := 4) dX6_turnOf_117 (by decide) ?_
            refine r_idivc (pc := 118) dX6_turnOf_118 (by decide) ?_
            refine r_bipush (pc := 119) (v := 10) dX6_turnOf_119 (by decide) ?_
            refine r_iremc (pc := 121) dX6_turnOf_121 (by decide) ?_
            obtain ⟨m1, x2, q3, h⟩ := gCl_some h
            refine r_callS (pc := 122) [.int _, .int _] (tX6_isSetting _ _ _ hF _ _ _ _ q3) ⟨rfl, rfl⟩ cd_X6_isSetting wX6_169 nm_X6_isSetting rfl (by rw [hRm]; decide) rfl (Nat.le_of_ble_eq_true rfl) dX6_turnOf_122 ?_
            refine r_if_eq (pc := 125) (tgt := 142) dX6_turnOf_125 (by decide) h (fun h => ?_) (fun h => ?_)
            · exact r_vretH dX6_turnOf_142 h he
            · refine r_aload_n (pc := 128) dX6_turnOf_128 rfl rfl ?_
              refine r_bipush (pc := 129) (v := 12) dX6_turnOf_129 (by decide) ?_
              refine r_iload_n (pc := 131) dX6_turnOf_131 rfl rfl ?_
              refine r_iconst (pc := 132) (v := 3) dX6_turnOf_132 (by decide) ?_
              refine r_iremc (pc := 133) dX6_turnOf_133 (by decide) ?_
              refine r_iadd (pc := 134) dX6_turnOf_134 ?_
              refine r_iload_n (pc := 135) dX6_turnOf_135 rfl rfl ?_
              refine r_iconst (pc := 136) (v := 4) dX6_turnOf_136 (by decide) ?_
              refine r_idivc (pc := 137) dX6_turnOf_137 (by decide) ?_
              refine r_bipush (pc := 138) (v := 10) dX6_turnOf_138 (by decide) ?_
              refine r_iremc (pc := 140) dX6_turnOf_140 (by decide) ?_
              refine r_iast (pc := 141) dX6_turnOf_141 h1 h (fun m4 h => ?_)
              exact r_vretH dX6_turnOf_142 h he
          · refine r_aload_n (pc := 100) dX6_turnOf_100 rfl rfl ?_
            refine r_bipush (pc := 101) (v := 11) dX6_turnOf_101 (by decide) ?_
            refine r_iload_n (pc := 103) dX6_turnOf_103 rfl rfl ?_
            refine r_bipush (pc := 104) (v := 100) dX6_turnOf_104 (by decide) ?_
            refine r_iremc (pc := 106) dX6_turnOf_106 (by decide) ?_
            refine r_iast (pc := 107) dX6_turnOf_107 h1 h (fun m5 h => ?_)
            refine r_goto (pc := 108) (tgt := 142) dX6_turnOf_108 (by decide) ?_
            exact r_vretH dX6_turnOf_142 h he
        · refine r_aload_n (pc := 76) dX6_turnOf_76 rfl rfl ?_
          refine r_iconst (pc := 77) (v := 1) dX6_turnOf_77 (by decide) ?_
          refine r_iload_n (pc := 78) dX6_turnOf_78 rfl rfl ?_
          refine r_bipush (pc := 79) (v := 9) dX6_turnOf_79 (by decide) ?_
          refine r_iremc (pc := 81) dX6_turnOf_81 (by decide) ?_
          refine r_iadd (pc := 82) dX6_turnOf_82 ?_
          obtain ⟨m6, x7, q8, h⟩ := gCl_some h
          refine r_callS (pc := 83) [.ref _, .int _] (tX6_daysOn _ _ _ hF _ _ _ _ _ q8 h1) ⟨rfl, rfl⟩ cd_X6_daysOn wX6_173 nm_X6_daysOn rfl (by rw [hRm]; decide) rfl (Nat.le_of_ble_eq_true rfl) dX6_turnOf_83 ?_
          refine r_pop (pc := 86) dX6_turnOf_86 rfl ?_
          refine r_goto (pc := 87) (tgt := 142) dX6_turnOf_87 (by decide) ?_
          exact r_vretH dX6_turnOf_142 h he
      · refine r_aload_n (pc := 55) dX6_turnOf_55 rfl rfl ?_
        refine r_iload_n (pc := 56) dX6_turnOf_56 rfl rfl ?_
        refine r_iconst (pc := 57) (v := 4) dX6_turnOf_57 (by decide) ?_
        refine r_iremc (pc := 58) dX6_turnOf_58 (by decide) ?_
        refine r_iload_n (pc := 59) dX6_turnOf_59 rfl rfl ?_
        refine r_iconst (pc := 60) (v := 4) dX6_turnOf_60 (by decide) ?_
        refine r_idivc (pc := 61) dX6_turnOf_61 (by decide) ?_
        refine r_iconst (pc := 62) (v := 4) dX6_turnOf_62 (by decide) ?_
        refine r_iremc (pc := 63) dX6_turnOf_63 (by decide) ?_
        obtain ⟨m9, x10, q11, h⟩ := gCl_some h
        refine r_callS (pc := 64) [.ref _, .int _, .int _] (tX6_swapOn _ _ _ hF _ _ _ _ _ _ q11 h1) ⟨rfl, rfl⟩ cd_X6_swapOn wX6_166 nm_X6_swapOn rfl (by rw [hRm]; decide) rfl (Nat.le_of_ble_eq_true rfl) dX6_turnOf_64 ?_
        refine r_pop (pc := 67) dX6_turnOf_67 rfl ?_
        refine r_goto (pc := 68) (tgt := 142) dX6_turnOf_68 (by decide) ?_
        exact r_vretH dX6_turnOf_142 h he
    · refine r_aload_n (pc := 19) dX6_turnOf_19 rfl rfl ?_
      refine r_iload_n (pc := 20) dX6_turnOf_20 rfl rfl ?_
      refine r_iconst (pc := 21) (v := 4) dX6_turnOf_21 (by decide) ?_
      refine r_iremc (pc := 22) dX6_turnOf_22 (by decide) ?_
      refine r_iload_n (pc := 23) dX6_turnOf_23 rfl rfl ?_
      refine r_iconst (pc := 24) (v := 4) dX6_turnOf_24 (by decide) ?_
      refine r_idivc (pc := 25) dX6_turnOf_25 (by decide) ?_
      refine r_bipush (pc := 26) (v := 7) dX6_turnOf_26 (by decide) ?_
      refine r_iremc (pc := 28) dX6_turnOf_28 (by decide) ?_
      refine r_iload_n (pc := 29) dX6_turnOf_29 rfl rfl ?_
      refine r_bipush (pc := 30) (v := 32) dX6_turnOf_30 (by decide) ?_
      refine r_idivc (pc := 32) dX6_turnOf_32 (by decide) ?_
      refine r_iconst (pc := 33) (v := 3) dX6_turnOf_33 (by decide) ?_
      refine r_iremc (pc := 34) dX6_turnOf_34 (by decide) ?_
      refine r_if_ne (pc := 35) (tgt := 42) dX6_turnOf_35 (by decide) h (fun h => ?_) (fun h => ?_)
      · refine r_iconst (pc := 42) (v := 0) dX6_turnOf_42 (by decide) ?_
        obtain ⟨m12, x13, q14, h⟩ := gCl_some h
        refine r_callS (pc := 43) [.ref _, .int _, .int _, .int _] (tX6_closeOn _ _ _ hF _ _ _ _ _ _ _ q14 h1) ⟨rfl, rfl⟩ cd_X6_closeOn wX6_149 nm_X6_closeOn rfl (by rw [hRm]; decide) rfl (Nat.le_of_ble_eq_true rfl) dX6_turnOf_43 ?_
        refine r_pop (pc := 46) dX6_turnOf_46 rfl ?_
        refine r_goto (pc := 47) (tgt := 142) dX6_turnOf_47 (by decide) ?_
        exact r_vretH dX6_turnOf_142 h he
      · refine r_iconst (pc := 38) (v := 1) dX6_turnOf_38 (by decide) ?_
        refine r_goto (pc := 39) (tgt := 43) dX6_turnOf_39 (by decide) ?_
        obtain ⟨m15, x16, q17, h⟩ := gCl_some h
        refine r_callS (pc := 43) [.ref _, .int _, .int _, .int _] (tX6_closeOn _ _ _ hF _ _ _ _ _ _ _ q17 h1) ⟨rfl, rfl⟩ cd_X6_closeOn wX6_149 nm_X6_closeOn rfl (by rw [hRm]; decide) rfl (Nat.le_of_ble_eq_true rfl) dX6_turnOf_43 ?_
        refine r_pop (pc := 46) dX6_turnOf_46 rfl ?_
        refine r_goto (pc := 47) (tgt := 142) dX6_turnOf_47 (by decide) ?_
        exact r_vretH dX6_turnOf_142 h he
  · refine r_aload_n (pc := 5) dX6_turnOf_5 rfl rfl ?_
    refine r_iload_n (pc := 6) dX6_turnOf_6 rfl rfl ?_
    refine r_iload_n (pc := 7) dX6_turnOf_7 rfl rfl ?_
    obtain ⟨m18, q20, h⟩ := gCv_some h
    refine r_callS (pc := 8) [.ref _, .int _, .int _] (tX6_turnCustomer _ _ _ hF _ _ _ _ _ _ q20 h1) ⟨rfl, rfl⟩ cd_X6_turnCustomer wX6_240 nm_X6_turnCustomer rfl (by rw [hRm]; decide) rfl (Nat.le_of_ble_eq_true rfl) dX6_turnOf_8 ?_
    refine r_goto (pc := 11) (tgt := 142) dX6_turnOf_11 (by decide) ?_
    exact r_vretH dX6_turnOf_142 h he
def fX6_simulate_L45 (v3 : Int32) : Nat → Int64 → Int32 → gM → Option (gM × Int32)
  | 0, _, _, _ => none
  | n + 1, v4, v6, m => (if v3 ≤ v6 then gRd m 6082 258 3 fun x13 => gRd m 5824 258 3 fun x15 => gCl (fX6_credits 6082 258 m) fun m17 x18 => some (m17, ((1000 * ((x13 - x15) - (x13 - x15) / 1000 * 1000)) + x18)) else gLt (((((v4 * 6364136223846793005) + 1442695040888963407).toUInt64 >>> ((33 : Int32).toInt64.toUInt64 &&& Int64.toUInt64 63)).toInt64).toInt32) fun x20 => gCv (fX6_turnOf 6082 258 (x20 - x20 / 8 * 8) (x20 / 8) m) fun m22 => gLt (v6 + 1) fun x25 => fX6_simulate_L45 v3 n ((v4 * 6364136223846793005) + 1442695040888963407) x25 m22)
def fX6_simulate (p1 : Int64) (p2 : Int32) (m : gM) : Option (gM × Int32) := gCl (fX6_in (p2.toInt64) 1 60 m) fun m1 x2 => (if x2 = 0 then gCl (fX6_refused 1 m1) fun m4 x5 => (if x5 = 0 then gCv (fX6_copyState 5824 258 0 6082 258 0 m4) fun m9 => fX6_simulate_L45 p2 gFU p1 0 m9 else some (m4, 0)) else gCl (fX6_refused 0 m1) fun m46 x47 => (if x47 = 0 then gCv (fX6_copyState 5824 258 0 6082 258 0 m46) fun m51 => fX6_simulate_L45 p2 gFU p1 0 m51 else some (m46, 0)))
abbrev rmX6_simulate : Room := { frames := 8, cells := 0, slots := 0, locals := 184 }
set_option maxHeartbeats 4000000 in
set_option maxRecDepth 100000 in
theorem tX6_simulate (l : Launch) (G : gX) (u : gU) (hF : gFull u) (p1 : Int64) (p2 : Int32) (m : gM) (o : gM × Int32) (h : fX6_simulate p1 p2 m = some o)  : gMet l G u yX6_simulate (.code yX6_simulate cX6_simulate 8 (some .int)) rmX6_simulate [.ref 5693, .long p1, .int p2] m o.1 (some (.int o.2)) := by
  refine gMet_of (own := RX6) (k := 4) (by decide) rfl ⟨rfl, rfl⟩ (Nat.le_of_ble_eq_true rfl) [some (.ref 5693), some (.long p1), none, some (.int p2), none, none, none, none] rfl (fun Y hG hu hnL hLn hRm he => ?_)
  subst hG hu hLn
  unfold fX6_simulate at h
  refine r_aload_n (pc := 0) dX6_simulate_0 rfl rfl ?_
  refine r_iload_n (pc := 1) dX6_simulate_1 rfl rfl ?_
  refine r_i2l (pc := 2) dX6_simulate_2 ?_
  refine r_lconst (pc := 3) (v := 1) dX6_simulate_3 (by decide) ?_
  refine r_ldc2 (pc := 4) (v := 60) dX6_simulate_4 cX6_223 ?_
  obtain ⟨m1, x2, q3, h⟩ := gCl_some h
  refine r_callS (pc := 7) [.long _, .long _, .long _] (tX6_in _ _ _ hF _ _ _ _ _ q3) ⟨rfl, rfl⟩ cd_X6_in wX6_37 nm_X6_in rfl (by rw [hRm]; decide) rfl (Nat.le_of_ble_eq_true rfl) dX6_simulate_7 ?_
  refine r_if_eq (pc := 10) (tgt := 17) dX6_simulate_10 (by decide) h (fun h => ?_) (fun h => ?_)
  · refine r_iconst (pc := 17) (v := 1) dX6_simulate_17 (by decide) ?_
    obtain ⟨m4, x5, q6, h⟩ := gCl_some h
    refine r_callV (kd := 5) (pc := 18) [.int _] (tX6_refused _ _ _ hF _ _ _ q6) ⟨rfl, rfl⟩ cd_X6_refused wX6_108 nm_X6_refused rfl (by rw [hRm]; decide) rfl (Nat.le_of_ble_eq_true rfl) rfl (by decide) (gO5 hF) dX6_simulate_18 ?_
    refine r_if_eq (pc := 21) (tgt := 26) dX6_simulate_21 (by decide) h (fun h => ?_) (fun h => ?_)
    · refine r_aload_n (pc := 26) dX6_simulate_26 rfl rfl ?_
      refine fX6_13 (pc := 27) hF dX6_simulate_27 (fun b7 => ?_)
      refine r_iconst (pc := 30) (v := 0) dX6_simulate_30 (by decide) ?_
      refine r_aload_n (pc := 31) dX6_simulate_31 rfl rfl ?_
      refine fX6_16 (pc := 32) hF dX6_simulate_32 (fun b8 => ?_)
      refine r_iconst (pc := 35) (v := 0) dX6_simulate_35 (by decide) ?_
      obtain ⟨m9, q11, h⟩ := gCv_some h
      refine r_callS (pc := 36) [.ref _, .int _, .ref _, .int _] (tX6_copyState _ _ _ hF _ _ _ _ _ _ _ _ q11 b7 b8) ⟨rfl, rfl⟩ cd_X6_copyState wX6_183 nm_X6_copyState rfl (by rw [hRm]; decide) rfl (Nat.le_of_ble_eq_true rfl) dX6_simulate_36 ?_
      refine r_lload_n (pc := 39) dX6_simulate_39 rfl rfl ?_
      refine r_lstore (pc := 40) dX6_simulate_40 (by rw [hnL]; decide) rfl ?_
      refine r_iconst (pc := 42) (v := 0) dX6_simulate_42 (by decide) ?_
      refine r_istore (pc := 43) dX6_simulate_43 (by rw [hnL]; decide) rfl ?_
      have L28 : ∀ (n26 : Nat) (v29 : Int64) (v30 : Int32) (m31 : gM), fX6_simulate_L45 p2 n26 v29 v30 m31 = some o → AW Y cX6_simulate RX6 45 [some (.ref 5693), none, none, some (.int p2), some (.long v29), none, some (.int v30), none] [] m31 := by
        intro n26
        induction n26 with
        | zero =>
          intro v29 v30 m31 h
          exact absurd h (by simp [fX6_simulate_L45])
        | succ n26 ih27 =>
          intro v29 v30 m31 h
          rw [fX6_simulate_L45] at h
          refine r_iload (pc := 45) dX6_simulate_45 rfl ?_
          refine r_iload_n (pc := 47) dX6_simulate_47 rfl rfl ?_
          refine r_icmp_ge (pc := 48) (tgt := 94) dX6_simulate_48 (by decide) h (fun h => ?_) (fun h => ?_)
          · refine r_sipush (pc := 94) (v := 1000) dX6_simulate_94 (by decide) ?_
            refine r_aload_n (pc := 97) dX6_simulate_97 rfl rfl ?_
            refine fX6_16 (pc := 98) hF dX6_simulate_98 (fun b32 => ?_)
            refine r_iconst (pc := 101) (v := 3) dX6_simulate_101 (by decide) ?_
            refine r_iald (pc := 102) dX6_simulate_102 b32 h (fun x33 h => ?_)
            refine r_aload_n (pc := 103) dX6_simulate_103 rfl rfl ?_
            refine fX6_13 (pc := 104) hF dX6_simulate_104 (fun b34 => ?_)
            refine r_iconst (pc := 107) (v := 3) dX6_simulate_107 (by decide) ?_
            refine r_iald (pc := 108) dX6_simulate_108 b34 h (fun x35 h => ?_)
            refine r_isub (pc := 109) dX6_simulate_109 ?_
            refine r_sipush (pc := 110) (v := 1000) dX6_simulate_110 (by decide) ?_
            refine r_iremc (pc := 113) dX6_simulate_113 (by decide) ?_
            refine r_imul (pc := 114) dX6_simulate_114 ?_
            refine r_aload_n (pc := 115) dX6_simulate_115 rfl rfl ?_
            refine fX6_16 (pc := 116) hF dX6_simulate_116 (fun b36 => ?_)
            obtain ⟨m37, x38, q39, h⟩ := gCl_some h
            refine r_callS (pc := 119) [.ref _] (tX6_credits _ _ _ hF _ _ _ _ q39 b36) ⟨rfl, rfl⟩ cd_X6_credits wX6_192 nm_X6_credits rfl (by rw [hRm]; decide) rfl (Nat.le_of_ble_eq_true rfl) dX6_simulate_119 ?_
            refine r_iadd (pc := 122) dX6_simulate_122 ?_
            exact r_iretH dX6_simulate_123 h he
          · refine r_lload (pc := 51) dX6_simulate_51 rfl ?_
            refine r_ldc2 (pc := 53) (v := 6364136223846793005) dX6_simulate_53 cX6_244 ?_
            refine r_lmul (pc := 56) dX6_simulate_56 ?_
            refine r_ldc2 (pc := 57) (v := 1442695040888963407) dX6_simulate_57 cX6_246 ?_
            refine r_ladd (pc := 60) dX6_simulate_60 ?_
            refine r_lstore (pc := 61) dX6_simulate_61 (by rw [hnL]; decide) rfl ?_
            refine r_lload (pc := 63) dX6_simulate_63 rfl ?_
            refine r_bipush (pc := 65) (v := 33) dX6_simulate_65 (by decide) ?_
            refine r_lushr (pc := 67) dX6_simulate_67 ?_
            refine r_l2i (pc := 68) dX6_simulate_68 ?_
            refine r_istoreL (pc := 69) dX6_simulate_69 (by rw [hnL]; decide) h (fun x40 h => ?_)
            refine r_aload_n (pc := 71) dX6_simulate_71 rfl rfl ?_
            refine fX6_16 (pc := 72) hF dX6_simulate_72 (fun b41 => ?_)
            refine r_iload (pc := 75) dX6_simulate_75 rfl ?_
            refine r_bipush (pc := 77) (v := 8) dX6_simulate_77 (by decide) ?_
            refine r_iremc (pc := 79) dX6_simulate_79 (by decide) ?_
            refine r_iload (pc := 80) dX6_simulate_80 rfl ?_
            refine r_bipush (pc := 82) (v := 8) dX6_simulate_82 (by decide) ?_
            refine r_idivc (pc := 84) dX6_simulate_84 (by decide) ?_
            obtain ⟨m42, q44, h⟩ := gCv_some h
            refine r_callS (pc := 85) [.ref _, .int _, .int _] (tX6_turnOf _ _ _ hF _ _ _ _ _ _ q44 b41) ⟨rfl, rfl⟩ cd_X6_turnOf wX6_248 nm_X6_turnOf rfl (by rw [hRm]; decide) rfl (Nat.le_of_ble_eq_true rfl) dX6_simulate_85 ?_
            refine r_iinc (pc := 88) (d := 1) dX6_simulate_88 rfl (by decide) (by rw [hnL]; decide) h (fun x45 h => ?_)
            refine r_goto (pc := 91) (tgt := 45) dX6_simulate_91 (by decide) ?_
            exact r_mask [true, false, false, true, true, false, true, false] rfl (ih27 _ _ _ h)
      exact r_mask [true, false, false, true, true, false, true, false] rfl (L28 _ _ _ _ h)
    · refine r_iconst (pc := 24) (v := 0) dX6_simulate_24 (by decide) ?_
      exact r_iretH dX6_simulate_25 h he
  · refine r_iconst (pc := 13) (v := 0) dX6_simulate_13 (by decide) ?_
    refine r_goto (pc := 14) (tgt := 18) dX6_simulate_14 (by decide) ?_
    obtain ⟨m46, x47, q48, h⟩ := gCl_some h
    refine r_callV (kd := 5) (pc := 18) [.int _] (tX6_refused _ _ _ hF _ _ _ q48) ⟨rfl, rfl⟩ cd_X6_refused wX6_108 nm_X6_refused rfl (by rw [hRm]; decide) rfl (Nat.le_of_ble_eq_true rfl) rfl (by decide) (gO5 hF) dX6_simulate_18 ?_
    refine r_if_eq (pc := 21) (tgt := 26) dX6_simulate_21 (by decide) h (fun h => ?_) (fun h => ?_)
    · refine r_aload_n (pc := 26) dX6_simulate_26 rfl rfl ?_
      refine fX6_13 (pc := 27) hF dX6_simulate_27 (fun b49 => ?_)
      refine r_iconst (pc := 30) (v := 0) dX6_simulate_30 (by decide) ?_
      refine r_aload_n (pc := 31) dX6_simulate_31 rfl rfl ?_
      refine fX6_16 (pc := 32) hF dX6_simulate_32 (fun b50 => ?_)
      refine r_iconst (pc := 35) (v := 0) dX6_simulate_35 (by decide) ?_
      obtain ⟨m51, q53, h⟩ := gCv_some h
      refine r_callS (pc := 36) [.ref _, .int _, .ref _, .int _] (tX6_copyState _ _ _ hF _ _ _ _ _ _ _ _ q53 b49 b50) ⟨rfl, rfl⟩ cd_X6_copyState wX6_183 nm_X6_copyState rfl (by rw [hRm]; decide) rfl (Nat.le_of_ble_eq_true rfl) dX6_simulate_36 ?_
      refine r_lload_n (pc := 39) dX6_simulate_39 rfl rfl ?_
      refine r_lstore (pc := 40) dX6_simulate_40 (by rw [hnL]; decide) rfl ?_
      refine r_iconst (pc := 42) (v := 0) dX6_simulate_42 (by decide) ?_
      refine r_istore (pc := 43) dX6_simulate_43 (by rw [hnL]; decide) rfl ?_
      have L56 : ∀ (n54 : Nat) (v57 : Int64) (v58 : Int32) (m59 : gM), fX6_simulate_L45 p2 n54 v57 v58 m59 = some o → AW Y cX6_simulate RX6 45 [some (.ref 5693), none, none, some (.int p2), some (.long v57), none, some (.int v58), none] [] m59 := by
        intro n54
        induction n54 with
        | zero =>
          intro v57 v58 m59 h
          exact absurd h (by simp [fX6_simulate_L45])
        | succ n54 ih55 =>
          intro v57 v58 m59 h
          rw [fX6_simulate_L45] at h
          refine r_iload (pc := 45) dX6_simulate_45 rfl ?_
          refine r_iload_n (pc := 47) dX6_simulate_47 rfl rfl ?_
          refine r_icmp_ge (pc := 48) (tgt := 94) dX6_simulate_48 (by decide) h (fun h => ?_) (fun h => ?_)
          · refine r_sipush (pc := 94) (v := 1000) dX6_simulate_94 (by decide) ?_
            refine r_aload_n (pc := 97) dX6_simulate_97 rfl rfl ?_
            refine fX6_16 (pc := 98) hF dX6_simulate_98 (fun b60 => ?_)
            refine r_iconst (pc := 101) (v := 3) dX6_simulate_101 (by decide) ?_
            refine r_iald (pc := 102) dX6_simulate_102 b60 h (fun x61 h => ?_)
            refine r_aload_n (pc := 103) dX6_simulate_103 rfl rfl ?_
            refine fX6_13 (pc := 104) hF dX6_simulate_104 (fun b62 => ?_)
            refine r_iconst (pc := 107) (v := 3) dX6_simulate_107 (by decide) ?_
            refine r_iald (pc := 108) dX6_simulate_108 b62 h (fun x63 h => ?_)
            refine r_isub (pc := 109) dX6_simulate_109 ?_
            refine r_sipush (pc := 110) (v := 1000) dX6_simulate_110 (by decide) ?_
            refine r_iremc (pc := 113) dX6_simulate_113 (by decide) ?_
            refine r_imul (pc := 114) dX6_simulate_114 ?_
            refine r_aload_n (pc := 115) dX6_simulate_115 rfl rfl ?_
            refine fX6_16 (pc := 116) hF dX6_simulate_116 (fun b64 => ?_)
            obtain ⟨m65, x66, q67, h⟩ := gCl_some h
            refine r_callS (pc := 119) [.ref _] (tX6_credits _ _ _ hF _ _ _ _ q67 b64) ⟨rfl, rfl⟩ cd_X6_credits wX6_192 nm_X6_credits rfl (by rw [hRm]; decide) rfl (Nat.le_of_ble_eq_true rfl) dX6_simulate_119 ?_
            refine r_iadd (pc := 122) dX6_simulate_122 ?_
            exact r_iretH dX6_simulate_123 h he
          · refine r_lload (pc := 51) dX6_simulate_51 rfl ?_
            refine r_ldc2 (pc := 53) (v := 6364136223846793005) dX6_simulate_53 cX6_244 ?_
            refine r_lmul (pc := 56) dX6_simulate_56 ?_
            refine r_ldc2 (pc := 57) (v := 1442695040888963407) dX6_simulate_57 cX6_246 ?_
            refine r_ladd (pc := 60) dX6_simulate_60 ?_
            refine r_lstore (pc := 61) dX6_simulate_61 (by rw [hnL]; decide) rfl ?_
            refine r_lload (pc := 63) dX6_simulate_63 rfl ?_
            refine r_bipush (pc := 65) (v := 33) dX6_simulate_65 (by decide) ?_
            refine r_lushr (pc := 67) dX6_simulate_67 ?_
            refine r_l2i (pc := 68) dX6_simulate_68 ?_
            refine r_istoreL (pc := 69) dX6_simulate_69 (by rw [hnL]; decide) h (fun x68 h => ?_)
            refine r_aload_n (pc := 71) dX6_simulate_71 rfl rfl ?_
            refine fX6_16 (pc := 72) hF dX6_simulate_72 (fun b69 => ?_)
            refine r_iload (pc := 75) dX6_simulate_75 rfl ?_
            refine r_bipush (pc := 77) (v := 8) dX6_simulate_77 (by decide) ?_
            refine r_iremc (pc := 79) dX6_simulate_79 (by decide) ?_
            refine r_iload (pc := 80) dX6_simulate_80 rfl ?_
            refine r_bipush (pc := 82) (v := 8) dX6_simulate_82 (by decide) ?_
            refine r_idivc (pc := 84) dX6_simulate_84 (by decide) ?_
            obtain ⟨m70, q72, h⟩ := gCv_some h
            refine r_callS (pc := 85) [.ref _, .int _, .int _] (tX6_turnOf _ _ _ hF _ _ _ _ _ _ q72 b69) ⟨rfl, rfl⟩ cd_X6_turnOf wX6_248 nm_X6_turnOf rfl (by rw [hRm]; decide) rfl (Nat.le_of_ble_eq_true rfl) dX6_simulate_85 ?_
            refine r_iinc (pc := 88) (d := 1) dX6_simulate_88 rfl (by decide) (by rw [hnL]; decide) h (fun x73 h => ?_)
            refine r_goto (pc := 91) (tgt := 45) dX6_simulate_91 (by decide) ?_
            exact r_mask [true, false, false, true, true, false, true, false] rfl (ih55 _ _ _ h)
      exact r_mask [true, false, false, true, true, false, true, false] rfl (L56 _ _ _ _ h)
    · refine r_iconst (pc := 24) (v := 0) dX6_simulate_24 (by decide) ?_
      exact r_iretH dX6_simulate_25 h he
def fX6_save (p1 : Int32) (m : gM) : Option (gM × Int32) := gCl (fX6_in (p1.toInt64) 0 1 m) fun m1 x2 => (if x2 = 0 then gCl (fX6_refused 1 m1) fun m4 x5 => (if x5 = 0 then gCv (fX6_copyState 5824 258 0 9952 516 (258 * p1) m4) fun m9 => gWr m9 10468 2 p1 (vp_nar .boolean 1) fun m13 => gRd m13 5824 258 1 fun x15 => some (m13, x15) else some (m4, 0)) else gCl (fX6_refused 0 m1) fun m16 x17 => (if x17 = 0 then gCv (fX6_copyState 5824 258 0 9952 516 (258 * p1) m16) fun m21 => gWr m21 10468 2 p1 (vp_nar .boolean 1) fun m25 => gRd m25 5824 258 1 fun x27 => some (m25, x27) else some (m16, 0)))
abbrev rmX6_save : Room := { frames := 1, cells := 0, slots := 0, locals := 25 }
set_option maxHeartbeats 4000000 in
set_option maxRecDepth 100000 in
theorem tX6_save (l : Launch) (G : gX) (u : gU) (hF : gFull u) (p1 : Int32) (m : gM) (o : gM × Int32) (h : fX6_save p1 m = some o)  : gMet l G u yX6_save (.code yX6_save cX6_save 2 (some .int)) rmX6_save [.ref 5693, .int p1] m o.1 (some (.int o.2)) := by
  refine gMet_of (own := RX6) (k := 0) (by decide) rfl ⟨rfl, rfl⟩ (Nat.le_of_ble_eq_true rfl) [some (.ref 5693), some (.int p1)] rfl (fun Y hG hu hnL hLn hRm he => ?_)
  subst hG hu hLn
  unfold fX6_save at h
  refine r_aload_n (pc := 0) dX6_save_0 rfl rfl ?_
  refine r_iload_n (pc := 1) dX6_save_1 rfl rfl ?_
  refine r_i2l (pc := 2) dX6_save_2 ?_
  refine r_lconst (pc := 3) (v := 0) dX6_save_3 (by decide) ?_
  refine r_lconst (pc := 4) (v := 1) dX6_save_4 (by decide) ?_
  obtain ⟨m1, x2, q3, h⟩ := gCl_some h
  refine r_callS (pc := 5) [.long _, .long _, .long _] (tX6_in _ _ _ hF _ _ _ _ _ q3) ⟨rfl, rfl⟩ cd_X6_in wX6_37 nm_X6_in rfl (by rw [hRm]; decide) rfl (Nat.le_of_ble_eq_true rfl) dX6_save_5 ?_
  refine r_if_eq (pc := 8) (tgt := 15) dX6_save_8 (by decide) h (fun h => ?_) (fun h => ?_)
  · refine r_iconst (pc := 15) (v := 1) dX6_save_15 (by decide) ?_
    obtain ⟨m4, x5, q6, h⟩ := gCl_some h
    refine r_callV (kd := 5) (pc := 16) [.int _] (tX6_refused _ _ _ hF _ _ _ q6) ⟨rfl, rfl⟩ cd_X6_refused wX6_108 nm_X6_refused rfl (by rw [hRm]; decide) rfl (Nat.le_of_ble_eq_true rfl) rfl (by decide) (gO5 hF) dX6_save_16 ?_
    refine r_if_eq (pc := 19) (tgt := 24) dX6_save_19 (by decide) h (fun h => ?_) (fun h => ?_)
    · refine r_aload_n (pc := 24) dX6_save_24 rfl rfl ?_
      refine fX6_13 (pc := 25) hF dX6_save_25 (fun b7 => ?_)
      refine r_iconst (pc := 28) (v := 0) dX6_save_28 (by decide) ?_
      refine r_aload_n (pc := 29) dX6_save_29 rfl rfl ?_
      refine fX6_22 (pc := 30) hF dX6_save_30 (fun b8 => ?_)
      refine r_sipush (pc := 33) (v := 258) dX6_save_33 (by decide) ?_
      refine r_iload_n (pc := 36) dX6_save_36 rfl rfl ?_
      refine r_imul (pc := 37) dX6_save_37 ?_
      obtain ⟨m9, q11, h⟩ := gCv_some h
      refine r_callS (pc := 38) [.ref _, .int _, .ref _, .int _] (tX6_copyState _ _ _ hF _ _ _ _ _ _ _ _ q11 b7 b8) ⟨rfl, rfl⟩ cd_X6_copyState wX6_183 nm_X6_copyState rfl (by rw [hRm]; decide) rfl (Nat.le_of_ble_eq_true rfl) dX6_save_38 ?_
      refine r_aload_n (pc := 41) dX6_save_41 rfl rfl ?_
      refine fX6_25 (pc := 42) hF dX6_save_42 (fun b12 => ?_)
      refine r_iload_n (pc := 45) dX6_save_45 rfl rfl ?_
      refine r_iconst (pc := 46) (v := 1) dX6_save_46 (by decide) ?_
      refine r_zast (pc := 47) dX6_save_47 b12 h (fun m13 h => ?_)
      refine r_aload_n (pc := 48) dX6_save_48 rfl rfl ?_
      refine fX6_13 (pc := 49) hF dX6_save_49 (fun b14 => ?_)
      refine r_iconst (pc := 52) (v := 1) dX6_save_52 (by decide) ?_
      refine r_iald (pc := 53) dX6_save_53 b14 h (fun x15 h => ?_)
      exact r_iretH dX6_save_54 h he
    · refine r_iconst (pc := 22) (v := 0) dX6_save_22 (by decide) ?_
      exact r_iretH dX6_save_23 h he
  · refine r_iconst (pc := 11) (v := 0) dX6_save_11 (by decide) ?_
    refine r_goto (pc := 12) (tgt := 16) dX6_save_12 (by decide) ?_
    obtain ⟨m16, x17, q18, h⟩ := gCl_some h
    refine r_callV (kd := 5) (pc := 16) [.int _] (tX6_refused _ _ _ hF _ _ _ q18) ⟨rfl, rfl⟩ cd_X6_refused wX6_108 nm_X6_refused rfl (by rw [hRm]; decide) rfl (Nat.le_of_ble_eq_true rfl) rfl (by decide) (gO5 hF) dX6_save_16 ?_
    refine r_if_eq (pc := 19) (tgt := 24) dX6_save_19 (by decide) h (fun h => ?_) (fun h => ?_)
    · refine r_aload_n (pc := 24) dX6_save_24 rfl rfl ?_
      refine fX6_13 (pc := 25) hF dX6_save_25 (fun b19 => ?_)
      refine r_iconst (pc := 28) (v := 0) dX6_save_28 (by decide) ?_
      refine r_aload_n (pc := 29) dX6_save_29 rfl rfl ?_
      refine fX6_22 (pc := 30) hF dX6_save_30 (fun b20 => ?_)
      refine r_sipush (pc := 33) (v := 258) dX6_save_33 (by decide) ?_
      refine r_iload_n (pc := 36) dX6_save_36 rfl rfl ?_
      refine r_imul (pc := 37) dX6_save_37 ?_
      obtain ⟨m21, q23, h⟩ := gCv_some h
      refine r_callS (pc := 38) [.ref _, .int _, .ref _, .int _] (tX6_copyState _ _ _ hF _ _ _ _ _ _ _ _ q23 b19 b20) ⟨rfl, rfl⟩ cd_X6_copyState wX6_183 nm_X6_copyState rfl (by rw [hRm]; decide) rfl (Nat.le_of_ble_eq_true rfl) dX6_save_38 ?_
      refine r_aload_n (pc := 41) dX6_save_41 rfl rfl ?_
      refine fX6_25 (pc := 42) hF dX6_save_42 (fun b24 => ?_)
      refine r_iload_n (pc := 45) dX6_save_45 rfl rfl ?_
      refine r_iconst (pc := 46) (v := 1) dX6_save_46 (by decide) ?_
      refine r_zast (pc := 47) dX6_save_47 b24 h (fun m25 h => ?_)
      refine r_aload_n (pc := 48) dX6_save_48 rfl rfl ?_
      refine fX6_13 (pc := 49) hF dX6_save_49 (fun b26 => ?_)
      refine r_iconst (pc := 52) (v := 1) dX6_save_52 (by decide) ?_
      refine r_iald (pc := 53) dX6_save_53 b26 h (fun x27 h => ?_)
      exact r_iretH dX6_save_54 h he
    · refine r_iconst (pc := 22) (v := 0) dX6_save_22 (by decide) ?_
      exact r_iretH dX6_save_23 h he
def fX6_restore (p1 : Int32) (m : gM) : Option (gM × Int32) := gCl (fX6_in (p1.toInt64) 0 1 m) fun m1 x2 => (if x2 = 0 then gCl (fX6_refused 1 m1) fun m28 x29 => (if x29 = 0 then gCv (fX6_copyState 9952 516 (258 * p1) 5824 258 0 m28) fun m33 => gLt (upd m33 (5693 + 6) 0) fun m36 => gRd m36 5824 258 1 fun x38 => some (m36, x38) else some (m28, 0)) else gRd m1 10468 2 p1 fun x5 => (if x5 = 0 then gCl (fX6_refused 2 m1) fun m17 x18 => (if x18 = 0 then gCv (fX6_copyState 9952 516 (258 * p1) 5824 258 0 m17) fun m22 => gLt (upd m22 (5693 + 6) 0) fun m25 => gRd m25 5824 258 1 fun x27 => some (m25, x27) else some (m17, 0)) else gCl (fX6_refused 0 m1) fun m6 x7 => (if x7 = 0 then gCv (fX6_copyState 9952 516 (258 * p1) 5824 258 0 m6) fun m11 => gLt (upd m11 (5693 + 6) 0) fun m14 => gRd m14 5824 258 1 fun x16 => some (m14, x16) else some (m6, 0))))
abbrev rmX6_restore : Room := { frames := 1, cells := 0, slots := 0, locals := 25 }
set_option maxHeartbeats 4000000 in
set_option maxRecDepth 100000 in
theorem tX6_restore (l : Launch) (G : gX) (u : gU) (hF : gFull u) (p1 : Int32) (m : gM) (o : gM × Int32) (h : fX6_restore p1 m = some o)  : gMet l G u yX6_restore (.code yX6_restore cX6_restore 2 (some .int)) rmX6_restore [.ref 5693, .int p1] m o.1 (some (.int o.2)) := by
  refine gMet_of (own := RX6) (k := 0) (by decide) rfl ⟨rfl, rfl⟩ (Nat.le_of_ble_eq_true rfl) [some (.ref 5693), some (.int p1)] rfl (fun Y hG hu hnL hLn hRm he => ?_)
  subst hG hu hLn
  unfold fX6_restore at h
  refine r_aload_n (pc := 0) dX6_restore_0 rfl rfl ?_
  refine r_iload_n (pc := 1) dX6_restore_1 rfl rfl ?_
  refine r_i2l (pc := 2) dX6_restore_2 ?_
  refine r_lconst (pc := 3) (v := 0) dX6_restore_3 (by decide) ?_
  refine r_lconst (pc := 4) (v := 1) dX6_restore_4 (by decide) ?_
  obtain ⟨m1, x2, q3, h⟩ := gCl_some h
  refine r_callS (pc := 5) [.long _, .long _, .long _] (tX6_in _ _ _ hF _ _ _ _ _ q3) ⟨rfl, rfl⟩ cd_X6_in wX6_37 nm_X6_in rfl (by rw [hRm]; decide) rfl (Nat.le_of_ble_eq_true rfl) dX6_restore_5 ?_
  refine r_if_ne (pc := 8) (tgt := 15) dX6_restore_8 (by decide) h (fun h => ?_) (fun h => ?_)
  · refine r_aload_n (pc := 15) dX6_restore_15 rfl rfl ?_
    refine fX6_25 (pc := 16) hF dX6_restore_16 (fun b4 => ?_)
    refine r_iload_n (pc := 19) dX6_restore_19 rfl rfl ?_
    refine r_zald (pc := 20) dX6_restore_20 b4 h (fun x5 h => ?_)
    refine r_if_ne (pc := 21) (tgt := 28) dX6_restore_21 (by decide) h (fun h => ?_) (fun h => ?_)
    · refine r_iconst (pc := 28) (v := 0) dX6_restore_28 (by decide) ?_
      obtain ⟨m6, x7, q8, h⟩ := gCl_some h
      refine r_callV (kd := 5) (pc := 29) [.int _] (tX6_refused _ _ _ hF _ _ _ q8) ⟨rfl, rfl⟩ cd_X6_refused wX6_108 nm_X6_refused rfl (by rw [hRm]; decide) rfl (Nat.le_of_ble_eq_true rfl) rfl (by decide) (gO5 hF) dX6_restore_29 ?_
      refine r_if_eq (pc := 32) (tgt := 37) dX6_restore_32 (by decide) h (fun h => ?_) (fun h => ?_)
      · refine r_aload_n (pc := 37) dX6_restore_37 rfl rfl ?_
        refine fX6_22 (pc := 38) hF dX6_restore_38 (fun b9 => ?_)
        refine r_sipush (pc := 41) (v := 258) dX6_restore_41 (by decide) ?_
        refine r_iload_n (pc := 44) dX6_restore_44 rfl rfl ?_
        refine r_imul (pc := 45) dX6_restore_45 ?_
        refine r_aload_n (pc := 46) dX6_restore_46 rfl rfl ?_
        refine fX6_13 (pc := 47) hF dX6_restore_47 (fun b10 => ?_)
        refine r_iconst (pc := 50) (v := 0) dX6_restore_50 (by decide) ?_
        obtain ⟨m11, q13, h⟩ := gCv_some h
        refine r_callS (pc := 51) [.ref _, .int _, .ref _, .int _] (tX6_copyState _ _ _ hF _ _ _ _ _ _ _ _ q13 b9 b10) ⟨rfl, rfl⟩ cd_X6_copyState wX6_183 nm_X6_copyState rfl (by rw [hRm]; decide) rfl (Nat.le_of_ble_eq_true rfl) dX6_restore_51 ?_
        refine r_aload_n (pc := 54) dX6_restore_54 rfl rfl ?_
        refine r_iconst (pc := 55) (v := 0) dX6_restore_55 (by decide) ?_
        refine fX6_187p (pc := 56) dX6_restore_56 (gO5 hF) h (fun m14 h => ?_)
        refine r_aload_n (pc := 59) dX6_restore_59 rfl rfl ?_
        refine fX6_13 (pc := 60) hF dX6_restore_60 (fun b15 => ?_)
        refine r_iconst (pc := 63) (v := 1) dX6_restore_63 (by decide) ?_
        refine r_iald (pc := 64) dX6_restore_64 b15 h (fun x16 h => ?_)
        exact r_iretH dX6_restore_65 h he
      · refine r_iconst (pc := 35) (v := 0) dX6_restore_35 (by decide) ?_
        exact r_iretH dX6_restore_36 h he
    · refine r_iconst (pc := 24) (v := 2) dX6_restore_24 (by decide) ?_
      refine r_goto (pc := 25) (tgt := 29) dX6_restore_25 (by decide) ?_
      obtain ⟨m17, x18, q19, h⟩ := gCl_some h
      refine r_callV (kd := 5) (pc := 29) [.int _] (tX6_refused _ _ _ hF _ _ _ q19) ⟨rfl, rfl⟩ cd_X6_refused wX6_108 nm_X6_refused rfl (by rw [hRm]; decide) rfl (Nat.le_of_ble_eq_true rfl) rfl (by decide) (gO5 hF) dX6_restore_29 ?_
      refine r_if_eq (pc := 32) (tgt := 37) dX6_restore_32 (by decide) h (fun h => ?_) (fun h => ?_)
      · refine r_aload_n (pc := 37) dX6_restore_37 rfl rfl ?_
        refine fX6_22 (pc := 38) hF dX6_restore_38 (fun b20 => ?_)
        refine r_sipush (pc := 41) (v := 258) dX6_restore_41 (by decide) ?_
        refine r_iload_n (pc := 44) dX6_restore_44 rfl rfl ?_
        refine r_imul (pc := 45) dX6_restore_45 ?_
        refine r_aload_n (pc := 46) dX6_restore_46 rfl rfl ?_
        refine fX6_13 (pc := 47) hF dX6_restore_47 (fun b21 => ?_)
        refine r_iconst (pc := 50) (v := 0) dX6_restore_50 (by decide) ?_
        obtain ⟨m22, q24, h⟩ := gCv_some h
        refine r_callS (pc := 51) [.ref _, .int _, .ref _, .int _] (tX6_copyState _ _ _ hF _ _ _ _ _ _ _ _ q24 b20 b21) ⟨rfl, rfl⟩ cd_X6_copyState wX6_183 nm_X6_copyState rfl (by rw [hRm]; decide) rfl (Nat.le_of_ble_eq_true rfl) dX6_restore_51 ?_
        refine r_aload_n (pc := 54) dX6_restore_54 rfl rfl ?_
        refine r_iconst (pc := 55) (v := 0) dX6_restore_55 (by decide) ?_
        refine fX6_187p (pc := 56) dX6_restore_56 (gO5 hF) h (fun m25 h => ?_)
        refine r_aload_n (pc := 59) dX6_restore_59 rfl rfl ?_
        refine fX6_13 (pc := 60) hF dX6_restore_60 (fun b26 => ?_)
        refine r_iconst (pc := 63) (v := 1) dX6_restore_63 (by decide) ?_
        refine r_iald (pc := 64) dX6_restore_64 b26 h (fun x27 h => ?_)
        exact r_iretH dX6_restore_65 h he
      · refine r_iconst (pc := 35) (v := 0) dX6_restore_35 (by decide) ?_
        exact r_iretH dX6_restore_36 h he
  · refine r_iconst (pc := 11) (v := 1) dX6_restore_11 (by decide) ?_
    refine r_goto (pc := 12) (tgt := 29) dX6_restore_12 (by decide) ?_
    obtain ⟨m28, x29, q30, h⟩ := gCl_some h
    refine r_callV (kd := 5) (pc := 29) [.int _] (tX6_refused _ _ _ hF _ _ _ q30) ⟨rfl, rfl⟩ cd_X6_refused wX6_108 nm_X6_refused rfl (by rw [hRm]; decide) rfl (Nat.le_of_ble_eq_true rfl) rfl (by decide) (gO5 hF) dX6_restore_29 ?_
    refine r_if_eq (pc := 32) (tgt := 37) dX6_restore_32 (by decide) h (fun h => ?_) (fun h => ?_)
    · refine r_aload_n (pc := 37) dX6_restore_37 rfl rfl ?_
      refine fX6_22 (pc := 38) hF dX6_restore_38 (fun b31 => ?_)
      refine r_sipush (pc := 41) (v := 258) dX6_restore_41 (by decide) ?_
      refine r_iload_n (pc := 44) dX6_restore_44 rfl rfl ?_
      refine r_imul (pc := 45) dX6_restore_45 ?_
      refine r_aload_n (pc := 46) dX6_restore_46 rfl rfl ?_
      refine fX6_13 (pc := 47) hF dX6_restore_47 (fun b32 => ?_)
      refine r_iconst (pc := 50) (v := 0) dX6_restore_50 (by decide) ?_
      obtain ⟨m33, q35, h⟩ := gCv_some h
      refine r_callS (pc := 51) [.ref _, .int _, .ref _, .int _] (tX6_copyState _ _ _ hF _ _ _ _ _ _ _ _ q35 b31 b32) ⟨rfl, rfl⟩ cd_X6_copyState wX6_183 nm_X6_copyState rfl (by rw [hRm]; decide) rfl (Nat.le_of_ble_eq_true rfl) dX6_restore_51 ?_
      refine r_aload_n (pc := 54) dX6_restore_54 rfl rfl ?_
      refine r_iconst (pc := 55) (v := 0) dX6_restore_55 (by decide) ?_
      refine fX6_187p (pc := 56) dX6_restore_56 (gO5 hF) h (fun m36 h => ?_)
      refine r_aload_n (pc := 59) dX6_restore_59 rfl rfl ?_
      refine fX6_13 (pc := 60) hF dX6_restore_60 (fun b37 => ?_)
      refine r_iconst (pc := 63) (v := 1) dX6_restore_63 (by decide) ?_
      refine r_iald (pc := 64) dX6_restore_64 b37 h (fun x38 h => ?_)
      exact r_iretH dX6_restore_65 h he
    · refine r_iconst (pc := 35) (v := 0) dX6_restore_35 (by decide) ?_
      exact r_iretH dX6_restore_36 h he
