/-! the law's loop -/
def gP0 (Inv : Nat → gM → Prop) : Prop := ∀ (T : Nat) (m : gM) (a1 : Int32), T < 512 → Inv T m → ∃ m3 : gM, gOk [2, 3] (fX5_append a1 m) (fun q => fX6_append a1 q) m3 ∧ Inv (T + 1) m3
def gP1 (Inv : Nat → gM → Prop) : Prop := ∀ (T : Nat) (m : gM) , T < 512 → Inv T m → ∃ m3 : gM, gOk2 (fX5_clearText m) (fun q => fX6_clearText q) m3 ∧ Inv (T + 1) m3
def gP2 (Inv : Nat → gM → Prop) : Prop := ∀ (T : Nat) (m : gM) , T < 512 → Inv T m → ∃ m3 : gM, gOk2 (fX5_errorPosition m) (fun q => fX6_errorPosition q) m3 ∧ Inv (T + 1) m3
def gP3 (Inv : Nat → gM → Prop) : Prop := ∀ (T : Nat) (m : gM) , T < 512 → Inv T m → ∃ m3 : gM, gOk [3] (fX5_load m) (fun q => fX6_load q) m3 ∧ Inv (T + 1) m3
def gP4 (Inv : Nat → gM → Prop) : Prop := ∀ (T : Nat) (m : gM) (a1 : Int32), T < 512 → Inv T m → ∃ m3 : gM, gOk [2] (fX5_about a1 m) (fun q => fX6_about a1 q) m3 ∧ Inv (T + 1) m3
def gP5 (Inv : Nat → gM → Prop) : Prop := ∀ (T : Nat) (m : gM) (a1 : Int32) (a2 : Int32), T < 512 → Inv T m → ∃ m3 : gM, gOk [1, 2] (fX5_customerOf a1 a2 m) (fun q => fX6_customerOf a1 a2 q) m3 ∧ Inv (T + 1) m3
def gP6 (Inv : Nat → gM → Prop) : Prop := ∀ (T : Nat) (m : gM) (a1 : Int32) (a2 : Int32), T < 512 → Inv T m → ∃ m3 : gM, gOk [1] (fX5_ordered a1 a2 m) (fun q => fX6_ordered a1 a2 q) m3 ∧ Inv (T + 1) m3
def gP7 (Inv : Nat → gM → Prop) : Prop := ∀ (T : Nat) (m : gM) (a1 : Int32) (a2 : Int32) (a3 : Int32), T < 512 → Inv T m → ∃ m3 : gM, gOk [1, 2] (fX5_away a1 a2 a3 m) (fun q => fX6_away a1 a2 a3 q) m3 ∧ Inv (T + 1) m3
def gP8 (Inv : Nat → gM → Prop) : Prop := ∀ (T : Nat) (m : gM) (a1 : Int32) (a2 : Int32), T < 512 → Inv T m → ∃ m3 : gM, gOk [1] (fX5_isClosed a1 a2 m) (fun q => fX6_isClosed a1 a2 q) m3 ∧ Inv (T + 1) m3
def gP9 (Inv : Nat → gM → Prop) : Prop := ∀ (T : Nat) (m : gM) (a1 : Int32), T < 512 → Inv T m → ∃ m3 : gM, gOk [1] (fX5_round a1 m) (fun q => fX6_round a1 q) m3 ∧ Inv (T + 1) m3
def gP10 (Inv : Nat → gM → Prop) : Prop := ∀ (T : Nat) (m : gM) (a1 : Int32), T < 512 → Inv T m → ∃ m3 : gM, gOk [2] (fX5_setting a1 m) (fun q => fX6_setting a1 q) m3 ∧ Inv (T + 1) m3
def gP11 (Inv : Nat → gM → Prop) : Prop := ∀ (T : Nat) (m : gM) (a1 : Int32) (a2 : Int32) (a3 : Int32) (a4 : Int32), T < 512 → Inv T m → ∃ m3 : gM, gOk [1, 2] (fX5_due a1 a2 a3 a4 m) (fun q => fX6_due a1 a2 a3 a4 q) m3 ∧ Inv (T + 1) m3
def gP12 (Inv : Nat → gM → Prop) : Prop := ∀ (T : Nat) (m : gM) (a1 : Int32) (a2 : Int32), T < 512 → Inv T m → ∃ m3 : gM, gOk [1, 2, 3] (fX5_customer a1 a2 m) (fun q => fX6_customer a1 a2 q) m3 ∧ Inv (T + 1) m3
def gP13 (Inv : Nat → gM → Prop) : Prop := ∀ (T : Nat) (m : gM) (a1 : Int32) (a2 : Int32) (a3 : Int32), T < 512 → Inv T m → ∃ m3 : gM, gOk [1, 2] (fX5_change a1 a2 a3 m) (fun q => fX6_change a1 a2 a3 q) m3 ∧ Inv (T + 1) m3
def gP14 (Inv : Nat → gM → Prop) : Prop := ∀ (T : Nat) (m : gM) (a1 : Int32) (a2 : Int32) (a3 : Int32), T < 512 → Inv T m → ∃ m3 : gM, gOk [1, 2, 3] (fX5_holiday a1 a2 a3 m) (fun q => fX6_holiday a1 a2 a3 q) m3 ∧ Inv (T + 1) m3
def gP15 (Inv : Nat → gM → Prop) : Prop := ∀ (T : Nat) (m : gM) (a1 : Int32) (a2 : Int32), T < 512 → Inv T m → ∃ m3 : gM, gOk [1] (fX5_drop a1 a2 m) (fun q => fX6_drop a1 a2 q) m3 ∧ Inv (T + 1) m3
def gP16 (Inv : Nat → gM → Prop) : Prop := ∀ (T : Nat) (m : gM) (a1 a2 a3 : Int32), T < 512 → Inv T m → ∃ m3 : gM, gOk [1] (fX5_close a1 a2 (if a3 = 0 then 0 else 1) m) (fun q => fX6_close a1 a2 (if a3 = 0 then 0 else 1) q) m3 ∧ Inv (T + 1) m3
def gP17 (Inv : Nat → gM → Prop) : Prop := ∀ (T : Nat) (m : gM) (a1 : Int32) (a2 : Int32), T < 512 → Inv T m → ∃ m3 : gM, gOk [1] (fX5_swap a1 a2 m) (fun q => fX6_swap a1 a2 q) m3 ∧ Inv (T + 1) m3
def gP18 (Inv : Nat → gM → Prop) : Prop := ∀ (T : Nat) (m : gM) (a1 : Int32) (a2 : Int32), T < 512 → Inv T m → ∃ m3 : gM, gOk [2] (fX5_set a1 a2 m) (fun q => fX6_set a1 a2 q) m3 ∧ Inv (T + 1) m3
def gP19 (Inv : Nat → gM → Prop) : Prop := ∀ (T : Nat) (m : gM) (a1 : Int32), T < 512 → Inv T m → ∃ m3 : gM, gOk [2] (fX5_days a1 m) (fun q => fX6_days a1 q) m3 ∧ Inv (T + 1) m3
def gP20 (Inv : Nat → gM → Prop) : Prop := ∀ (T : Nat) (m : gM) , T < 512 → Inv T m → ∃ m3 : gM, gOk [3] (fX5_undo m) (fun q => fX6_undo q) m3 ∧ Inv (T + 1) m3
def gP21 (Inv : Nat → gM → Prop) : Prop := ∀ (T : Nat) (m : gM) (a1 : Int32), T < 512 → Inv T m → ∃ m3 : gM, gOk [1] (fX5_why a1 m) (fun q => fX6_why a1 q) m3 ∧ Inv (T + 1) m3
def gP22 (Inv : Nat → gM → Prop) : Prop := ∀ (T : Nat) (m : gM) (a1 : Int32) (a2 : Int32), T < 512 → Inv T m → ∃ m3 : gM, gOk [1, 2] (fX5_creditIn a1 a2 m) (fun q => fX6_creditIn a1 a2 q) m3 ∧ Inv (T + 1) m3
def gP23 (Inv : Nat → gM → Prop) : Prop := ∀ (T : Nat) (m : gM) (a1 : Int32), T < 512 → Inv T m → ∃ m3 : gM, gOk [1] (fX5_clearIn a1 m) (fun q => fX6_clearIn a1 q) m3 ∧ Inv (T + 1) m3
def gP24 (Inv : Nat → gM → Prop) : Prop := ∀ (T : Nat) (m : gM) (a1 : Int32), T < 512 → Inv T m → ∃ m3 : gM, gOk [2] (fX5_leastOven a1 m) (fun q => fX6_leastOven a1 q) m3 ∧ Inv (T + 1) m3
def gP25 (Inv : Nat → gM → Prop) : Prop := ∀ (T : Nat) (m : gM) (a1 : Int32), T < 512 → Inv T m → ∃ m3 : gM, gOk [2] (fX5_bestRound a1 m) (fun q => fX6_bestRound a1 q) m3 ∧ Inv (T + 1) m3
def gP26 (Inv : Nat → gM → Prop) : Prop := ∀ (T : Nat) (m : gM) (a1 : Int32) (z : Int64), T < 512 → Inv T m → ∃ m3 : gM, gOk [2] (fX5_runScript a1 z m) (fun q => fX6_runScript a1 z q) m3 ∧ Inv (T + 1) m3
def gP27 (Inv : Nat → gM → Prop) : Prop := ∀ (T : Nat) (m : gM) (z : Int64) (a3 : Int32), T < 512 → Inv T m → ∃ m3 : gM, gOk [2] (fX5_simulate z a3 m) (fun q => fX6_simulate z a3 q) m3 ∧ Inv (T + 1) m3
def gP28 (Inv : Nat → gM → Prop) : Prop := ∀ (T : Nat) (m : gM) (a1 : Int32), T < 512 → Inv T m → ∃ m3 : gM, gOk [1] (fX5_save a1 m) (fun q => fX6_save a1 q) m3 ∧ Inv (T + 1) m3
def gP29 (Inv : Nat → gM → Prop) : Prop := ∀ (T : Nat) (m : gM) (a1 : Int32), T < 512 → Inv T m → ∃ m3 : gM, gOk [1, 3] (fX5_restore a1 m) (fun q => fX6_restore a1 q) m3 ∧ Inv (T + 1) m3
def gPall (Inv : Nat → gM → Prop) : Prop := gP0 Inv ∧ gP1 Inv ∧ gP2 Inv ∧ gP3 Inv ∧ gP4 Inv ∧ gP5 Inv ∧ gP6 Inv ∧ gP7 Inv ∧ gP8 Inv ∧ gP9 Inv ∧ gP10 Inv ∧ gP11 Inv ∧ gP12 Inv ∧ gP13 Inv ∧ gP14 Inv ∧ gP15 Inv ∧ gP16 Inv ∧ gP17 Inv ∧ gP18 Inv ∧ gP19 Inv ∧ gP20 Inv ∧ gP21 Inv ∧ gP22 Inv ∧ gP23 Inv ∧ gP24 Inv ∧ gP25 Inv ∧ gP26 Inv ∧ gP27 Inv ∧ gP28 Inv ∧ gP29 Inv ∧ ∀ (T : Nat) (m : gM), T < 512 → Inv T m → Inv (T + 1) m
def gEndL (Y : gY) : Prop := match Y with
  | (G, _, _, _, _, _, R, s, _, args, below, meth, _, _, _, Q) => R = room_1 ∧ (∃ b : Nat, args = #[Value.ref b] ∧ Q = lw_Z below #[Value.ref b] s) ∧ meth.sig.returnType = ret ∧ meth.locks = false ∧ s.heap.size = G.2.2.2
theorem gEndL_s {Y : gY} {u : gU} {a b : Nat} (h : gEndL Y) : gEndL (gYs Y u a b) := by
  obtain ⟨G, u0, nL, p, l, e, R, s, m, args, below, meth, c, cells, slots, Q⟩ := Y
  exact h
theorem r_lawret {Y : gY} {pc : Nat} {ls : List (Option Value)} {σ : gM} (hd : decode cL_law pc = .ok (.ireturn, 1)) (he : gEndL Y) (hc : (gCs Y).1 ≤ 601024 ∧ (gCs Y).2 ≤ 7293034) : AW Y cL_law RL pc ls [.int 1] σ := by
  obtain ⟨G, u, nL, p, l, e, R, s, m, args, below, meth, c, cells, slots, Q⟩ := Y
  intro hf H locs la hW hS hl
  obtain ⟨rfl, ⟨b, rfl, rfl⟩, h3, h4, h5⟩ := he
  refine va_forget (fun q hq => by
    have := hS.2.2 q hq
    rw [h5]
    exact this) ?_
  refine W.widen (k := 601024) (n := 7293034) hc.1 hc.2 ?_
  exact lw_ret hf.1 hf.2.1 h3 h4 hd
theorem gSub5 {L : Nat} (hL : L ≤ 2560) : (Int32.ofNat L - 5).toInt = (L : Int) - 5 := by
  rw [Int32.toInt_sub, Int32.toInt_ofNat_of_lt (by omega)]
  have h5 : (5 : Int32).toInt = 5 := by decide
  rw [h5]
  exact Int.bmod_eq_of_le (by omega) (by omega)
theorem gHead {n L : Nat} (hL : L ≤ 2560) (hn : n < 2147483648) : (Int32.ofNat L - 5 < Int32.ofNat n) ↔ L < n + 5 := by
  rw [Int32.lt_iff_toInt_lt, gSub5 hL, Int32.toInt_ofNat_of_lt (by omega)]
  omega
theorem gInc5 (n : Nat) : Int32.ofNat n + 5 = Int32.ofNat (n + 5) := by rw [Int32.ofNat_add]; rfl
set_option maxHeartbeats 8000000 in
set_option maxRecDepth 100000 in
theorem law_loop (Inv : Nat → gM → Prop) (hI : gPall Inv) {Y : gY} {L : Nat} {xs : Nat → Int32} (hL : L ≤ 2560) (hX : gScr Y L xs) (hnL : gNL Y = 7) (hRm : gRm Y = room_1) (hlt : (gLn Y).stackTraces = false) (he : gEndL Y) : ∀ (j n T : Nat) (u1 : gU) (a b : Nat) (m : gM), L ≤ n + 4 + 5 * j → n = 5 * T → n ≤ 2600 → gFull u1 → a ≤ 843 + T → b ≤ 10471 + 6 * T → Inv T m → AW (gYs Y u1 a b) cL_law RL 23 (gLs n) [] m := by
  intro j
  induction j with
  | zero =>
    intro n T u1 a b m h1 h2 h3 hF ha hb hm
    unfold gLs
    refine r_iload (pc := 23) dL_law_23 rfl ?_
    refine r_aload_n (pc := 25) dL_law_25 rfl rfl ?_
    refine r_slen (pc := 26) (gYs_X hX) dL_law_26 ?_
    refine r_iconst (pc := 27) (v := 5) dL_law_27 (by decide) ?_
    refine r_isub (pc := 28) dL_law_28 ?_
    refine r_icmpC_gt (pc := 29) (tgt := 2080) dL_law_29 (by decide) (fun _ => ?_) (fun g => absurd ((gHead hL (by omega)).mpr (by omega)) g)
    refine r_iconst (pc := 2080) (v := 1) dL_law_2080 (by decide) ?_
    exact r_lawret (pc := 2081) dL_law_2081 (gEndL_s he) (by rw [gYs_Cs]; exact ⟨by simp only; omega, by simp only; omega⟩)
  | succ j ih =>
    intro n T u1 a b m h1 h2 h3 hF ha hb hm
    have hX1 : gScr (gYs Y u1 a b) L xs := gYs_X hX
    have hnL1 : gNL (gYs Y u1 a b) = 7 := by rw [gYs_nL]; exact hnL
    have hRm1 : gRm (gYs Y u1 a b) = room_1 := by rw [gYs_Rm]; exact hRm
    have hlt1 : (gLn (gYs Y u1 a b)).stackTraces = false := by rw [gYs_Ln]; exact hlt
    have hF1 : gFull (gYs Y u1 a b).2.1 := by rw [gYs_u]; exact hF
    by_cases hn : n + 5 ≤ L
    · have hT : T < 512 := by omega
      have hcs : (gCs (gYs Y u1 a b)).1 + 1 ≤ 601024 ∧ (gCs (gYs Y u1 a b)).2 + 6 ≤ 7293034 := by rw [gYs_Cs]; exact ⟨by simp only; omega, by simp only; omega⟩
      have next : ∀ (u2 : gU) (a2 b2 : Nat) (m3 : gM), gFull u2 → a2 ≤ 843 + (T + 1) → b2 ≤ 10471 + 6 * (T + 1) → Inv (T + 1) m3 → AW (gYs Y u2 a2 b2) cL_law RL 2074 (gLs n) [] m3 := by
        intro u2 a2 b2 m3 hF2 ha2 hb2 hm2
        unfold gLs
        refine r_iinc (pc := 2074) (d := 5) dL_law_2074 rfl (by decide) (by rw [gYs_nL, hnL]; decide) gIncE (fun y hy => ?_)
        have hy := gIncD hy
        subst hy
        refine r_goto (pc := 2077) (tgt := 23) dL_law_2077 (by decide) ?_
        have K := ih (n + 5) (T + 1) u2 a2 b2 m3 (by omega) (by omega) (by omega) hF2 ha2 hb2 hm2
        unfold gLs at K
        rw [gInc5]
        exact r_mask [true, true, true, true, true, false, false] rfl K
      have nxt : ∀ (m3 : gM), Inv (T + 1) m3 → ∀ u2 : gU, gFull u2 → AW (gYs (gYs Y u1 a b) u2 ((gCs (gYs Y u1 a b)).1 + 1) ((gCs (gYs Y u1 a b)).2 + 6)) cL_law RL 2074 (gLs n) [] m3 := by
        intro m3 hm3 u2 hF2
        rw [gYs_s, gYs_Cs]
        exact next u2 (a + 1) (b + 6) m3 hF2 (by omega) (by omega) hm3
      have nx0 : ∀ (m3 : gM), Inv (T + 1) m3 → AW (gYs Y u1 a b) cL_law RL 2074 (gLs n) [] m3 := fun m3 hm3 => next u1 a b m3 hF (by omega) (by omega) hm3
      unfold gPall at hI
      obtain ⟨p0, p1, p2, p3, p4, p5, p6, p7, p8, p9, p10, p11, p12, p13, p14, p15, p16, p17, p18, p19, p20, p21, p22, p23, p24, p25, p26, p27, p28, p29, pd⟩ := hI
      unfold gLs
      refine r_iload (pc := 23) dL_law_23 rfl ?_
      refine r_aload_n (pc := 25) dL_law_25 rfl rfl ?_
      refine r_slen (pc := 26) hX1 dL_law_26 ?_
      refine r_iconst (pc := 27) (v := 5) dL_law_27 (by decide) ?_
      refine r_isub (pc := 28) dL_law_28 ?_
      refine r_icmpC_gt (pc := 29) (tgt := 2080) dL_law_29 (by decide) (fun g => absurd ((gHead hL (by omega)).mp g) (by omega)) (fun _ => ?_)
      refine r_aload_n (pc := 32) dL_law_32 rfl rfl ?_
      refine r_iload (pc := 33) dL_law_33 rfl ?_
      refine r_sld (pc := 35) (i := Int32.ofNat n) hX1 dL_law_35 (by have := gVin (n := n) (c := 0) (L := L) (by omega) hL; rw [← Int32.ofNat_add] at this; exact this) ?_
      refine r_bipush (pc := 36) (v := 31) dL_law_36 (by decide) ?_
      refine r_iand (pc := 38) dL_law_38 ?_
      obtain ⟨v, hv⟩ : ∃ v, v = xs (Int32.ofNat n).toNatClampNeg &&& 31 := ⟨_, rfl⟩
      rw [← hv]
      refine r_swC (c := v = 0) (fun g0 => ?_) (fun g0 => ?_)
      · refine r_tabIn (pc := 39) (tgt := 172) (v := 0) dL_law_39 g0 (by decide) (by decide) rfl (by decide) ?_
        obtain ⟨m3, hq, hm3⟩ := p0 T m (gSc xs n 1) hT hm
        exact law_c0 hF1 hX1 hn hL hnL1 hRm1 hlt1 hcs m m3 hq (nxt m3 hm3)
      refine r_swC (c := v = 1) (fun g1 => ?_) (fun g1 => ?_)
      · refine r_tabIn (pc := 39) (tgt := 228) (v := 1) dL_law_39 g1 (by decide) (by decide) rfl (by decide) ?_
        obtain ⟨m3, hq, hm3⟩ := p1 T m  hT hm
        exact law_c1 hF1 hRm1 m m3 hq (nx0 m3 hm3)
      refine r_swC (c := v = 2) (fun g2 => ?_) (fun g2 => ?_)
      · refine r_tabIn (pc := 39) (tgt := 241) (v := 2) dL_law_39 g2 (by decide) (by decide) rfl (by decide) ?_
        obtain ⟨m3, hq, hm3⟩ := p2 T m  hT hm
        exact law_c2 hF1 hRm1 m m3 hq (nx0 m3 hm3)
      refine r_swC (c := v = 3) (fun g3 => ?_) (fun g3 => ?_)
      · refine r_tabIn (pc := 39) (tgt := 254) (v := 3) dL_law_39 g3 (by decide) (by decide) rfl (by decide) ?_
        obtain ⟨m3, hq, hm3⟩ := p3 T m  hT hm
        exact law_c3 hF1 hX1 hn hL hnL1 hRm1 hlt1 hcs m m3 hq (nxt m3 hm3)
      refine r_swC (c := v = 4) (fun g4 => ?_) (fun g4 => ?_)
      · refine r_tabIn (pc := 39) (tgt := 298) (v := 4) dL_law_39 g4 (by decide) (by decide) rfl (by decide) ?_
        obtain ⟨m3, hq, hm3⟩ := p4 T m (gSc xs n 1) hT hm
        exact law_c4 hF1 hX1 hn hL hnL1 hRm1 hlt1 hcs m m3 hq (nxt m3 hm3)
      refine r_swC (c := v = 5) (fun g5 => ?_) (fun g5 => ?_)
      · refine r_tabIn (pc := 39) (tgt := 354) (v := 5) dL_law_39 g5 (by decide) (by decide) rfl (by decide) ?_
        obtain ⟨m3, hq, hm3⟩ := p5 T m (gSc xs n 1) (gSc xs n 2) hT hm
        exact law_c5 hF1 hX1 hn hL hnL1 hRm1 hlt1 hcs m m3 hq (nxt m3 hm3)
      refine r_swC (c := v = 6) (fun g6 => ?_) (fun g6 => ?_)
      · refine r_tabIn (pc := 39) (tgt := 422) (v := 6) dL_law_39 g6 (by decide) (by decide) rfl (by decide) ?_
        obtain ⟨m3, hq, hm3⟩ := p6 T m (gSc xs n 1) (gSc xs n 2) hT hm
        exact law_c6 hF1 hX1 hn hL hnL1 hRm1 hlt1 hcs m m3 hq (nxt m3 hm3)
      refine r_swC (c := v = 7) (fun g7 => ?_) (fun g7 => ?_)
      · refine r_tabIn (pc := 39) (tgt := 490) (v := 7) dL_law_39 g7 (by decide) (by decide) rfl (by decide) ?_
        obtain ⟨m3, hq, hm3⟩ := p7 T m (gSc xs n 1) (gSc xs n 2) (gSc xs n 3) hT hm
        exact law_c7 hF1 hX1 hn hL hnL1 hRm1 hlt1 hcs m m3 hq (nxt m3 hm3)
      refine r_swC (c := v = 8) (fun g8 => ?_) (fun g8 => ?_)
      · refine r_tabIn (pc := 39) (tgt := 570) (v := 8) dL_law_39 g8 (by decide) (by decide) rfl (by decide) ?_
        obtain ⟨m3, hq, hm3⟩ := p8 T m (gSc xs n 1) (gSc xs n 2) hT hm
        exact law_c8 hF1 hX1 hn hL hnL1 hRm1 hlt1 hcs m m3 hq (nxt m3 hm3)
      refine r_swC (c := v = 9) (fun g9 => ?_) (fun g9 => ?_)
      · refine r_tabIn (pc := 39) (tgt := 638) (v := 9) dL_law_39 g9 (by decide) (by decide) rfl (by decide) ?_
        obtain ⟨m3, hq, hm3⟩ := p9 T m (gSc xs n 1) hT hm
        exact law_c9 hF1 hX1 hn hL hnL1 hRm1 hlt1 hcs m m3 hq (nxt m3 hm3)
      refine r_swC (c := v = 10) (fun g10 => ?_) (fun g10 => ?_)
      · refine r_tabIn (pc := 39) (tgt := 694) (v := 10) dL_law_39 g10 (by decide) (by decide) rfl (by decide) ?_
        obtain ⟨m3, hq, hm3⟩ := p10 T m (gSc xs n 1) hT hm
        exact law_c10 hF1 hX1 hn hL hnL1 hRm1 hlt1 hcs m m3 hq (nxt m3 hm3)
      refine r_swC (c := v = 11) (fun g11 => ?_) (fun g11 => ?_)
      · refine r_tabIn (pc := 39) (tgt := 750) (v := 11) dL_law_39 g11 (by decide) (by decide) rfl (by decide) ?_
        obtain ⟨m3, hq, hm3⟩ := p11 T m (gSc xs n 1) (gSc xs n 2) (gSc xs n 3) (gSc xs n 4) hT hm
        exact law_c11 hF1 hX1 hn hL hnL1 hRm1 hlt1 hcs m m3 hq (nxt m3 hm3)
      refine r_swC (c := v = 12) (fun g12 => ?_) (fun g12 => ?_)
      · refine r_tabIn (pc := 39) (tgt := 842) (v := 12) dL_law_39 g12 (by decide) (by decide) rfl (by decide) ?_
        obtain ⟨m3, hq, hm3⟩ := p12 T m (gSc xs n 1) (gSc xs n 2) hT hm
        exact law_c12 hF1 hX1 hn hL hnL1 hRm1 hlt1 hcs m m3 hq (nxt m3 hm3)
      refine r_swC (c := v = 13) (fun g13 => ?_) (fun g13 => ?_)
      · refine r_tabIn (pc := 39) (tgt := 910) (v := 13) dL_law_39 g13 (by decide) (by decide) rfl (by decide) ?_
        obtain ⟨m3, hq, hm3⟩ := p13 T m (gSc xs n 1) (gSc xs n 2) (gSc xs n 3) hT hm
        exact law_c13 hF1 hX1 hn hL hnL1 hRm1 hlt1 hcs m m3 hq (nxt m3 hm3)
      refine r_swC (c := v = 14) (fun g14 => ?_) (fun g14 => ?_)
      · refine r_tabIn (pc := 39) (tgt := 990) (v := 14) dL_law_39 g14 (by decide) (by decide) rfl (by decide) ?_
        obtain ⟨m3, hq, hm3⟩ := p14 T m (gSc xs n 1) (gSc xs n 2) (gSc xs n 3) hT hm
        exact law_c14 hF1 hX1 hn hL hnL1 hRm1 hlt1 hcs m m3 hq (nxt m3 hm3)
      refine r_swC (c := v = 15) (fun g15 => ?_) (fun g15 => ?_)
      · refine r_tabIn (pc := 39) (tgt := 1070) (v := 15) dL_law_39 g15 (by decide) (by decide) rfl (by decide) ?_
        obtain ⟨m3, hq, hm3⟩ := p15 T m (gSc xs n 1) (gSc xs n 2) hT hm
        exact law_c15 hF1 hX1 hn hL hnL1 hRm1 hlt1 hcs m m3 hq (nxt m3 hm3)
      refine r_swC (c := v = 16) (fun g16 => ?_) (fun g16 => ?_)
      · refine r_tabIn (pc := 39) (tgt := 1138) (v := 16) dL_law_39 g16 (by decide) (by decide) rfl (by decide) ?_
        obtain ⟨m3, hq, hm3⟩ := p16 T m (gSc xs n 1) (gSc xs n 2) (gSc xs n 3) hT hm
        exact law_c16 hF1 hX1 hn hL hnL1 hRm1 hlt1 hcs m m3 hq (nxt m3 hm3)
      refine r_swC (c := v = 17) (fun g17 => ?_) (fun g17 => ?_)
      · refine r_tabIn (pc := 39) (tgt := 1234) (v := 17) dL_law_39 g17 (by decide) (by decide) rfl (by decide) ?_
        obtain ⟨m3, hq, hm3⟩ := p17 T m (gSc xs n 1) (gSc xs n 2) hT hm
        exact law_c17 hF1 hX1 hn hL hnL1 hRm1 hlt1 hcs m m3 hq (nxt m3 hm3)
      refine r_swC (c := v = 18) (fun g18 => ?_) (fun g18 => ?_)
      · refine r_tabIn (pc := 39) (tgt := 1302) (v := 18) dL_law_39 g18 (by decide) (by decide) rfl (by decide) ?_
        obtain ⟨m3, hq, hm3⟩ := p18 T m (gSc xs n 1) (gSc xs n 2) hT hm
        exact law_c18 hF1 hX1 hn hL hnL1 hRm1 hlt1 hcs m m3 hq (nxt m3 hm3)
      refine r_swC (c := v = 19) (fun g19 => ?_) (fun g19 => ?_)
      · refine r_tabIn (pc := 39) (tgt := 1370) (v := 19) dL_law_39 g19 (by decide) (by decide) rfl (by decide) ?_
        obtain ⟨m3, hq, hm3⟩ := p19 T m (gSc xs n 1) hT hm
        exact law_c19 hF1 hX1 hn hL hnL1 hRm1 hlt1 hcs m m3 hq (nxt m3 hm3)
      refine r_swC (c := v = 20) (fun g20 => ?_) (fun g20 => ?_)
      · refine r_tabIn (pc := 39) (tgt := 1426) (v := 20) dL_law_39 g20 (by decide) (by decide) rfl (by decide) ?_
        obtain ⟨m3, hq, hm3⟩ := p20 T m  hT hm
        exact law_c20 hF1 hX1 hn hL hnL1 hRm1 hlt1 hcs m m3 hq (nxt m3 hm3)
      refine r_swC (c := v = 21) (fun g21 => ?_) (fun g21 => ?_)
      · refine r_tabIn (pc := 39) (tgt := 1470) (v := 21) dL_law_39 g21 (by decide) (by decide) rfl (by decide) ?_
        obtain ⟨m3, hq, hm3⟩ := p21 T m (gSc xs n 1) hT hm
        exact law_c21 hF1 hX1 hn hL hnL1 hRm1 hlt1 hcs m m3 hq (nxt m3 hm3)
      refine r_swC (c := v = 22) (fun g22 => ?_) (fun g22 => ?_)
      · refine r_tabIn (pc := 39) (tgt := 1526) (v := 22) dL_law_39 g22 (by decide) (by decide) rfl (by decide) ?_
        obtain ⟨m3, hq, hm3⟩ := p22 T m (gSc xs n 1) (gSc xs n 2) hT hm
        exact law_c22 hF1 hX1 hn hL hnL1 hRm1 hlt1 hcs m m3 hq (nxt m3 hm3)
      refine r_swC (c := v = 23) (fun g23 => ?_) (fun g23 => ?_)
      · refine r_tabIn (pc := 39) (tgt := 1594) (v := 23) dL_law_39 g23 (by decide) (by decide) rfl (by decide) ?_
        obtain ⟨m3, hq, hm3⟩ := p23 T m (gSc xs n 1) hT hm
        exact law_c23 hF1 hX1 hn hL hnL1 hRm1 hlt1 hcs m m3 hq (nxt m3 hm3)
      refine r_swC (c := v = 24) (fun g24 => ?_) (fun g24 => ?_)
      · refine r_tabIn (pc := 39) (tgt := 1650) (v := 24) dL_law_39 g24 (by decide) (by decide) rfl (by decide) ?_
        obtain ⟨m3, hq, hm3⟩ := p24 T m (gSc xs n 1) hT hm
        exact law_c24 hF1 hX1 hn hL hnL1 hRm1 hlt1 hcs m m3 hq (nxt m3 hm3)
      refine r_swC (c := v = 25) (fun g25 => ?_) (fun g25 => ?_)
      · refine r_tabIn (pc := 39) (tgt := 1706) (v := 25) dL_law_39 g25 (by decide) (by decide) rfl (by decide) ?_
        obtain ⟨m3, hq, hm3⟩ := p25 T m (gSc xs n 1) hT hm
        exact law_c25 hF1 hX1 hn hL hnL1 hRm1 hlt1 hcs m m3 hq (nxt m3 hm3)
      refine r_swC (c := v = 26) (fun g26 => ?_) (fun g26 => ?_)
      · refine r_tabIn (pc := 39) (tgt := 1762) (v := 26) dL_law_39 g26 (by decide) (by decide) rfl (by decide) ?_
        obtain ⟨m3, hq, hm3⟩ := p26 T m (gSc xs n 1) (((gSc xs n 2).toInt64 <<< (((32 : Int32).toInt64) &&& 63)) ||| ((gSc xs n 3).toInt64 &&& 4294967295)) hT hm
        exact law_c26 hF1 hX1 hn hL hnL1 hRm1 hlt1 hcs m m3 hq (nxt m3 hm3)
      refine r_swC (c := v = 27) (fun g27 => ?_) (fun g27 => ?_)
      · refine r_tabIn (pc := 39) (tgt := 1862) (v := 27) dL_law_39 g27 (by decide) (by decide) rfl (by decide) ?_
        obtain ⟨m3, hq, hm3⟩ := p27 T m (((gSc xs n 1).toInt64 <<< (((32 : Int32).toInt64) &&& 63)) ||| ((gSc xs n 2).toInt64 &&& 4294967295)) (gSc xs n 3) hT hm
        exact law_c27 hF1 hX1 hn hL hnL1 hRm1 hlt1 hcs m m3 hq (nxt m3 hm3)
      refine r_swC (c := v = 28) (fun g28 => ?_) (fun g28 => ?_)
      · refine r_tabIn (pc := 39) (tgt := 1962) (v := 28) dL_law_39 g28 (by decide) (by decide) rfl (by decide) ?_
        obtain ⟨m3, hq, hm3⟩ := p28 T m (gSc xs n 1) hT hm
        exact law_c28 hF1 hX1 hn hL hnL1 hRm1 hlt1 hcs m m3 hq (nxt m3 hm3)
      refine r_swC (c := v = 29) (fun g29 => ?_) (fun g29 => ?_)
      · refine r_tabIn (pc := 39) (tgt := 2018) (v := 29) dL_law_39 g29 (by decide) (by decide) rfl (by decide) ?_
        obtain ⟨m3, hq, hm3⟩ := p29 T m (gSc xs n 1) hT hm
        exact law_c29 hF1 hX1 hn hL hnL1 hRm1 hlt1 hcs m m3 hq (nxt m3 hm3)
      have g0n := gNe g0 (z := 0) (by decide)
      have g1n := gNe g1 (z := 1) (by decide)
      have g2n := gNe g2 (z := 2) (by decide)
      have g3n := gNe g3 (z := 3) (by decide)
      have g4n := gNe g4 (z := 4) (by decide)
      have g5n := gNe g5 (z := 5) (by decide)
      have g6n := gNe g6 (z := 6) (by decide)
      have g7n := gNe g7 (z := 7) (by decide)
      have g8n := gNe g8 (z := 8) (by decide)
      have g9n := gNe g9 (z := 9) (by decide)
      have g10n := gNe g10 (z := 10) (by decide)
      have g11n := gNe g11 (z := 11) (by decide)
      have g12n := gNe g12 (z := 12) (by decide)
      have g13n := gNe g13 (z := 13) (by decide)
      have g14n := gNe g14 (z := 14) (by decide)
      have g15n := gNe g15 (z := 15) (by decide)
      have g16n := gNe g16 (z := 16) (by decide)
      have g17n := gNe g17 (z := 17) (by decide)
      have g18n := gNe g18 (z := 18) (by decide)
      have g19n := gNe g19 (z := 19) (by decide)
      have g20n := gNe g20 (z := 20) (by decide)
      have g21n := gNe g21 (z := 21) (by decide)
      have g22n := gNe g22 (z := 22) (by decide)
      have g23n := gNe g23 (z := 23) (by decide)
      have g24n := gNe g24 (z := 24) (by decide)
      have g25n := gNe g25 (z := 25) (by decide)
      have g26n := gNe g26 (z := 26) (by decide)
      have g27n := gNe g27 (z := 27) (by decide)
      have g28n := gNe g28 (z := 28) (by decide)
      have g29n := gNe g29 (z := 29) (by decide)
      refine r_tabOut (pc := 39) (tgt := 2074) dL_law_39 (by omega) (by decide) ?_
      exact nx0 m (pd T m hT hm)
    · unfold gLs
      refine r_iload (pc := 23) dL_law_23 rfl ?_
      refine r_aload_n (pc := 25) dL_law_25 rfl rfl ?_
      refine r_slen (pc := 26) hX1 dL_law_26 ?_
      refine r_iconst (pc := 27) (v := 5) dL_law_27 (by decide) ?_
      refine r_isub (pc := 28) dL_law_28 ?_
      refine r_icmpC_gt (pc := 29) (tgt := 2080) dL_law_29 (by decide) (fun _ => ?_) (fun g => absurd ((gHead hL (by omega)).mpr (by omega)) g)
      refine r_iconst (pc := 2080) (v := 1) dL_law_2080 (by decide) ?_
      exact r_lawret (pc := 2081) dL_law_2081 (gEndL_s he) (by rw [gYs_Cs]; exact ⟨by simp only; omega, by simp only; omega⟩)
