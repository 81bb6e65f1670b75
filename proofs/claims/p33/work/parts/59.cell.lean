/-! a number of the law's script -/
theorem clV_in {L : Nat} {xs : Nat → Int32} {k : Int32} (h0 : 0 ≤ k) (hL : L < 2147483648) (h : k < Int32.ofNat L) : vp_in k L ∧ clV L xs k = xs k.toNatClampNeg &&& 2147483647 := by
  have h1 : (0 : Int) ≤ k.toInt := by
    have := Int32.le_iff_toInt_le.mp h0
    simpa using this
  have h2 : k.toInt < (L : Int) := by
    have := Int32.lt_iff_toInt_lt.mp h
    rwa [Int32.toInt_ofNat_of_lt hL] at this
  have h3 : k.toNatClampNeg < L := by
    show k.toInt.toNat < L
    omega
  refine ⟨fun q => ?_, ?_⟩
  · rcases q with q | q
    · have := Int32.lt_iff_toInt_lt.mp q
      simp at this
      omega
    · omega
  · unfold clV
    rw [if_pos h]
theorem clV_out {L : Nat} {xs : Nat → Int32} {k : Int32} (h : ¬ k < Int32.ofNat L) : clV L xs k = (15519947 * (k + 3) + 11923) &&& 2147483647 := by
  unfold clV
  rw [if_neg h]
set_option maxRecDepth 100000 in
theorem tL_cell (l : Launch) (G : gX) (u : gU) (k : Int32) (hk : 0 ≤ k) (hL : G.2.2.1 30001 < 2147483648) (m : gM) : gMet l G u yL_cell (.code yL_cell cL_cell 2 (some .int)) { frames := 0, cells := 0, slots := 0, locals := 0 } [.ref 30000, .int k] m m (some (.int (clV (G.2.2.1 30001) (gXs G) k))) := by
  refine gMet_of (own := RL) (k := 0) (by decide) rfl ⟨rfl, rfl⟩ (Nat.le_of_ble_eq_true rfl) [some (.ref 30000), some (.int k)] rfl (fun Y hG hu hnL hLn hRm he => ?_)
  subst hG hu hLn
  refine r_iload_n (pc := 0) dL_cell_0 rfl rfl ?_
  refine r_aload_n (pc := 1) dL_cell_1 rfl rfl ?_
  refine r_slen (pc := 2) dL_cell_2 ?_
  refine r_icmpC_ge (pc := 3) (tgt := 12) dL_cell_3 (by decide) (fun g => ?_) (fun g => ?_)
  · have e := clV_out (xs := gXs Y.1) (fun q => Int32.not_lt.mpr g q)
    rw [e] at he
    refine r_ldc (own := RL) (pc := 12) (v := 15519947) dL_cell_12 cL_188 ?_
    refine r_iload_n (pc := 14) dL_cell_14 rfl rfl ?_
    refine r_iconst (pc := 15) (v := 3) dL_cell_15 (by decide) ?_
    refine r_iadd (pc := 16) dL_cell_16 ?_
    refine r_imul (pc := 17) dL_cell_17 ?_
    refine r_sipush (pc := 18) (v := 11923) dL_cell_18 (by decide) ?_
    refine r_iadd (pc := 21) dL_cell_21 ?_
    refine r_ldc (own := RL) (pc := 22) (v := 2147483647) dL_cell_22 cL_189 ?_
    refine r_iand (pc := 24) dL_cell_24 ?_
    exact r_iret dL_cell_25 he
  · have e := clV_in (xs := gXs Y.1) hk hL (Int32.not_le.mp g)
    rw [e.2] at he
    refine r_aload_n (pc := 6) dL_cell_6 rfl rfl ?_
    refine r_iload_n (pc := 7) dL_cell_7 rfl rfl ?_
    refine r_sld (pc := 8) dL_cell_8 e.1 ?_
    refine r_goto (pc := 9) (tgt := 22) dL_cell_9 (by decide) ?_
    refine r_ldc (own := RL) (pc := 22) (v := 2147483647) dL_cell_22 cL_189 ?_
    refine r_iand (pc := 24) dL_cell_24 ?_
    exact r_iret dL_cell_25 he
