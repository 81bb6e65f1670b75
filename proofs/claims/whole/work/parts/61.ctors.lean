/-! the constructors -/
theorem oiC : Cond.instanceMethod Lib.objectInit ∈ gG ∧ Cond.code Lib.objectInit ⟨#[0xb1]⟩ 1 none ∈ gG := ⟨gG_mem (List.mem_of_getElem? (i := 99) (by decide +kernel)) rfl, gG_mem (List.mem_of_getElem? (i := 100) (by decide +kernel)) rfl⟩
theorem ac_char : Cond.arrayClass .char ∈ gG := gG_mem (List.mem_of_getElem? (i := 115) (by decide +kernel)) rfl
theorem ac_int : Cond.arrayClass .int ∈ gG := gG_mem (List.mem_of_getElem? (i := 173) (by decide +kernel)) rfl
theorem ac_boolean : Cond.arrayClass .boolean ∈ gG := gG_mem (List.mem_of_getElem? (i := 172) (by decide +kernel)) rfl
theorem ac_long : Cond.arrayClass .long ∈ gG := gG_mem (List.mem_of_getElem? (i := 1287) (by decide +kernel)) rfl
theorem oiX0 : Cond.methodLink RX0 3 Lib.objectInit ∈ gG := gG_mem (List.mem_of_getElem? (i := 121) (by decide +kernel)) rfl
theorem oiX1 : Cond.methodLink RX1 3 Lib.objectInit ∈ gG := gG_mem (List.mem_of_getElem? (i := 128) (by decide +kernel)) rfl
theorem oiX2 : Cond.methodLink RX2 3 Lib.objectInit ∈ gG := gG_mem (List.mem_of_getElem? (i := 226) (by decide +kernel)) rfl
theorem oiX4 : Cond.methodLink RX4 3 Lib.objectInit ∈ gG := gG_mem (List.mem_of_getElem? (i := 106) (by decide +kernel)) rfl
theorem oiX5 : Cond.methodLink RX5 1 Lib.objectInit ∈ gG := gG_mem (List.mem_of_getElem? (i := 98) (by decide +kernel)) rfl
theorem oiX6 : Cond.methodLink RX6 1 Lib.objectInit ∈ gG := gG_mem (List.mem_of_getElem? (i := 947) (by decide +kernel)) rfl
theorem nwL_8 : Cond.classLink RL 8 RX5 ∈ gG ∧ Cond.instantiable RX5 6 ∈ gG ∧ Cond.initialized RX5 ∈ gG := ⟨gG_mem (List.mem_of_getElem? (i := 93) (by decide +kernel)) rfl, gG_mem (List.mem_of_getElem? (i := 94) (by decide +kernel)) rfl, gG_mem (List.mem_of_getElem? (i := 73) (by decide +kernel)) rfl⟩
theorem nwX5_7 : Cond.classLink RX5 7 RX4 ∈ gG ∧ Cond.instantiable RX4 2 ∈ gG ∧ Cond.initialized RX4 ∈ gG := ⟨gG_mem (List.mem_of_getElem? (i := 101) (by decide +kernel)) rfl, gG_mem (List.mem_of_getElem? (i := 102) (by decide +kernel)) rfl, gG_mem (List.mem_of_getElem? (i := 74) (by decide +kernel)) rfl⟩
theorem nwX5_16 : Cond.classLink RX5 16 RX0 ∈ gG ∧ Cond.instantiable RX0 11 ∈ gG ∧ Cond.initialized RX0 ∈ gG := ⟨gG_mem (List.mem_of_getElem? (i := 116) (by decide +kernel)) rfl, gG_mem (List.mem_of_getElem? (i := 117) (by decide +kernel)) rfl, gG_mem (List.mem_of_getElem? (i := 75) (by decide +kernel)) rfl⟩
theorem nwX0_9 : Cond.classLink RX0 9 RX1 ∈ gG ∧ Cond.instantiable RX1 11 ∈ gG ∧ Cond.initialized RX1 ∈ gG := ⟨gG_mem (List.mem_of_getElem? (i := 122) (by decide +kernel)) rfl, gG_mem (List.mem_of_getElem? (i := 124) (by decide +kernel)) rfl, gG_mem (List.mem_of_getElem? (i := 76) (by decide +kernel)) rfl⟩
theorem nwX5_26 : Cond.classLink RX5 26 RX2 ∈ gG ∧ Cond.instantiable RX2 3 ∈ gG ∧ Cond.initialized RX2 ∈ gG := ⟨gG_mem (List.mem_of_getElem? (i := 221) (by decide +kernel)) rfl, gG_mem (List.mem_of_getElem? (i := 222) (by decide +kernel)) rfl, gG_mem (List.mem_of_getElem? (i := 78) (by decide +kernel)) rfl⟩
theorem nwX2_9 : Cond.classLink RX2 9 RX0 ∈ gG ∧ Cond.instantiable RX0 11 ∈ gG ∧ Cond.initialized RX0 ∈ gG := ⟨gG_mem (List.mem_of_getElem? (i := 227) (by decide +kernel)) rfl, gG_mem (List.mem_of_getElem? (i := 117) (by decide +kernel)) rfl, gG_mem (List.mem_of_getElem? (i := 75) (by decide +kernel)) rfl⟩
theorem nwL_108 : Cond.classLink RL 108 RX6 ∈ gG ∧ Cond.instantiable RX6 11 ∈ gG ∧ Cond.initialized RX6 ∈ gG := ⟨gG_mem (List.mem_of_getElem? (i := 942) (by decide +kernel)) rfl, gG_mem (List.mem_of_getElem? (i := 943) (by decide +kernel)) rfl, gG_mem (List.mem_of_getElem? (i := 79) (by decide +kernel)) rfl⟩
theorem ciL_107 : Cond.methodLink RL 107 yX5_init ∈ gG ∧ Cond.instanceMethod yX5_init ∈ gG ∧ Cond.initialized (yX5_init).cls ∈ gG := ⟨gG_mem (List.mem_of_getElem? (i := 95) (by decide +kernel)) rfl, gG_mem (List.mem_of_getElem? (i := 96) (by decide +kernel)) rfl, gG_mem (List.mem_of_getElem? (i := 73) (by decide +kernel)) rfl⟩
theorem ciL_110 : Cond.methodLink RL 110 yX6_init ∈ gG ∧ Cond.instanceMethod yX6_init ∈ gG ∧ Cond.initialized (yX6_init).cls ∈ gG := ⟨gG_mem (List.mem_of_getElem? (i := 944) (by decide +kernel)) rfl, gG_mem (List.mem_of_getElem? (i := 945) (by decide +kernel)) rfl, gG_mem (List.mem_of_getElem? (i := 79) (by decide +kernel)) rfl⟩
theorem ciX5_9 : Cond.methodLinkNest RX5 9 yX4_init "LoafRounds" ∈ gN ∧ Cond.instanceMethod yX4_init ∈ gG ∧ Cond.initialized (yX4_init).cls ∈ gG := ⟨gN_mem (List.mem_of_getElem? (i := 103) (by decide +kernel)) rfl, gG_mem (List.mem_of_getElem? (i := 104) (by decide +kernel)) rfl, gG_mem (List.mem_of_getElem? (i := 74) (by decide +kernel)) rfl⟩
theorem ciX5_18 : Cond.methodLinkNest RX5 18 yX0_init "LoafRounds" ∈ gN ∧ Cond.instanceMethod yX0_init ∈ gG ∧ Cond.initialized (yX0_init).cls ∈ gG := ⟨gN_mem (List.mem_of_getElem? (i := 118) (by decide +kernel)) rfl, gG_mem (List.mem_of_getElem? (i := 119) (by decide +kernel)) rfl, gG_mem (List.mem_of_getElem? (i := 75) (by decide +kernel)) rfl⟩
theorem ciX0_31 : Cond.methodLinkNest RX0 31 yX1_init "LoafRounds" ∈ gN ∧ Cond.instanceMethod yX1_init ∈ gG ∧ Cond.initialized (yX1_init).cls ∈ gG := ⟨gN_mem (List.mem_of_getElem? (i := 125) (by decide +kernel)) rfl, gG_mem (List.mem_of_getElem? (i := 126) (by decide +kernel)) rfl, gG_mem (List.mem_of_getElem? (i := 76) (by decide +kernel)) rfl⟩
theorem ciX5_28 : Cond.methodLinkNest RX5 28 yX2_init "LoafRounds" ∈ gN ∧ Cond.instanceMethod yX2_init ∈ gG ∧ Cond.initialized (yX2_init).cls ∈ gG := ⟨gN_mem (List.mem_of_getElem? (i := 223) (by decide +kernel)) rfl, gG_mem (List.mem_of_getElem? (i := 224) (by decide +kernel)) rfl, gG_mem (List.mem_of_getElem? (i := 78) (by decide +kernel)) rfl⟩
theorem ciX2_17 : Cond.methodLinkNest RX2 17 yX0_init "LoafRounds" ∈ gN ∧ Cond.instanceMethod yX0_init ∈ gG ∧ Cond.initialized (yX0_init).cls ∈ gG := ⟨gN_mem (List.mem_of_getElem? (i := 229) (by decide +kernel)) rfl, gG_mem (List.mem_of_getElem? (i := 119) (by decide +kernel)) rfl, gG_mem (List.mem_of_getElem? (i := 75) (by decide +kernel)) rfl⟩
theorem gObs_lt {k : Nat} {o : Nat × Nat × Nat} (h : gObs[k]? = some o) : k < 843 := by
  have := (List.getElem?_eq_some_iff.mp h).1
  rw [gObs_len] at this
  exact this
abbrev rmX1_init : Room := { frames := 1, cells := 3, slots := 13, locals := 20 }
set_option maxHeartbeats 4000000 in
set_option maxRecDepth 100000 in
theorem tX1_init (l : Launch) (G : gX) (hpl : gPl G) (u : gU) (a k : Nat) (hu : u.1 = k + 1) (h0 : gObs[k]? = some (a, 1, 0)) (h1 : gObs[k + 1]? = some (a + 11, 7, 7)) (h2 : gObs[k + 2]? = some (a + 18, 7, 3)) (h3 : gObs[k + 3]? = some (a + 21, 7, 3)) (σ : gM) : gMetC l G u (fun u1 σ1 => u1.1 = k + 4 ∧ u1.2.2 = u.2.2 ∧ (∀ x, (x < a ∨ a + 24 ≤ x) → u1.2.1 x = u.2.1 x ∧ σ1 x = σ x) ∧ u1.2.1 (a + 8) = a + 11 + 1 ∧ u1.2.1 (a + 9) = a + 18 + 1 ∧ u1.2.1 (a + 10) = a + 21 + 1) yX1_init (.code yX1_init cX1_init 1 none) rmX1_init [.ref a] σ 3 13 := by
  have hlt := gObs_lt h3
  refine gMetC_of hpl (by omega) (own := RX1) (k := 0) (by decide) rfl rfl (Nat.le_of_ble_eq_true rfl) [some (.ref a)] rfl (fun Y hG hY hnL hLn hRm hCs hz hini hao he => ?_)
  subst hG hY hLn
  refine r_aload_n (pc := 0) dX1_init_0 rfl rfl ?_
  refine r_objI (pc := 1) ⟨oiX1, oiC⟩ (by rw [hRm]; decide) (Nat.le_of_ble_eq_true rfl) dX1_init_1 ?_
  refine r_aload_n (pc := 4) dX1_init_4 rfl rfl ?_
  refine r_bipush (pc := 5) (v := 7) dX1_init_5 (by decide) ?_
  refine r_newI (pc := 7) (kd := 7) (a := (a + 11)) (len := 7) (by decide) (by decide) rfl (by intro z; simp [gTi]) rfl (by decide) (by decide) (by decide) ac_int dX1_init_7 (by first | (rw [gYs_u]; simp only [gNew, gPut, hu]; exact h1) | (rw [hu]; exact h1)) (by first | exact hz | exact gHz_s hz (by simp only [gNew, gPut] <;> omega) (by simp only [gNew, gPut] <;> omega)) (by have := gObs_lt h1; first | (rw [gYs_u]; simp only [gNew, gPut, hu]; omega) | (rw [hu]; omega)) (by first | (rw [hCs, hRm]; decide) | (rw [gYs_Cs, gYs_Rm, hRm]; decide)) ?_
  simp only [gYs_s, gYs_u, gYs_Cs, hCs, Nat.zero_add, Nat.reduceAdd]
  refine r_putR (pc := 9) (kd := 1) (j := 8) (a := a) (b := (a + 11)) tyX1 tyX1_ok nmX1 rfl (by decide) rfl (by decide) rfl inG1 kfX1_9 rfl rfl (by decide +kernel : parseFieldDescriptor _ = some (tyX1 8)) (Or.inr ⟨_, rfl⟩) (by first | exact hini | exact gIni_s hini) dX1_init_9 (by first | (rw [gYs_u]; exact gIn_at h0 (by simp only [gNew, gPut, hu]; omega)) | exact gIn_at h0 (by rw [hu]; omega)) ?_
  simp only [gYs_s, gYs_u, gYs_Cs, hCs, Nat.zero_add, Nat.reduceAdd]
  refine r_aload_n (pc := 12) dX1_init_12 rfl rfl ?_
  refine r_iconst (pc := 13) (v := 3) dX1_init_13 (by decide) ?_
  refine r_newI (pc := 14) (kd := 7) (a := (a + 18)) (len := 3) (by decide) (by decide) rfl (by intro z; simp [gTi]) rfl (by decide) (by decide) (by decide) ac_int dX1_init_14 (by first | (rw [gYs_u]; simp only [gNew, gPut, hu]; exact h2) | (rw [hu]; exact h2)) (by first | exact hz | exact gHz_s hz (by simp only [gNew, gPut] <;> omega) (by simp only [gNew, gPut] <;> omega)) (by have := gObs_lt h2; first | (rw [gYs_u]; simp only [gNew, gPut, hu]; omega) | (rw [hu]; omega)) (by first | (rw [hCs, hRm]; decide) | (rw [gYs_Cs, gYs_Rm, hRm]; decide)) ?_
  simp only [gYs_s, gYs_u, gYs_Cs, hCs, Nat.zero_add, Nat.reduceAdd]
  refine r_putR (pc := 16) (kd := 1) (j := 9) (a := a) (b := (a + 18)) tyX1 tyX1_ok nmX1 rfl (by decide) rfl (by decide) rfl inG1 kfX1_15 rfl rfl (by decide +kernel : parseFieldDescriptor _ = some (tyX1 9)) (Or.inr ⟨_, rfl⟩) (by first | exact hini | exact gIni_s hini) dX1_init_16 (by first | (rw [gYs_u]; exact gIn_at h0 (by simp only [gNew, gPut, hu]; omega)) | exact gIn_at h0 (by rw [hu]; omega)) ?_
  simp only [gYs_s, gYs_u, gYs_Cs, hCs, Nat.zero_add, Nat.reduceAdd]
  refine r_aload_n (pc := 19) dX1_init_19 rfl rfl ?_
  refine r_iconst (pc := 20) (v := 3) dX1_init_20 (by decide) ?_
  refine r_newI (pc := 21) (kd := 7) (a := (a + 21)) (len := 3) (by decide) (by decide) rfl (by intro z; simp [gTi]) rfl (by decide) (by decide) (by decide) ac_int dX1_init_21 (by first | (rw [gYs_u]; simp only [gNew, gPut, hu]; exact h3) | (rw [hu]; exact h3)) (by first | exact hz | exact gHz_s hz (by simp only [gNew, gPut] <;> omega) (by simp only [gNew, gPut] <;> omega)) (by have := gObs_lt h3; first | (rw [gYs_u]; simp only [gNew, gPut, hu]; omega) | (rw [hu]; omega)) (by first | (rw [hCs, hRm]; decide) | (rw [gYs_Cs, gYs_Rm, hRm]; decide)) ?_
  simp only [gYs_s, gYs_u, gYs_Cs, hCs, Nat.zero_add, Nat.reduceAdd]
  refine r_putR (pc := 23) (kd := 1) (j := 10) (a := a) (b := (a + 21)) tyX1 tyX1_ok nmX1 rfl (by decide) rfl (by decide) rfl inG1 kfX1_18 rfl rfl (by decide +kernel : parseFieldDescriptor _ = some (tyX1 10)) (Or.inr ⟨_, rfl⟩) (by first | exact hini | exact gIni_s hini) dX1_init_23 (by first | (rw [gYs_u]; exact gIn_at h0 (by simp only [gNew, gPut, hu]; omega)) | exact gIn_at h0 (by rw [hu]; omega)) ?_
  simp only [gYs_s, gYs_u, gYs_Cs, hCs, Nat.zero_add, Nat.reduceAdd]
  refine r_vretC (pc := 26) dX1_init_26 (gEndC_s he (by decide) (by decide)) ⟨?_, ?_, ?_, ?_, ?_, ?_⟩
  · rw [gYs_u]; simp only [gNew, gPut, hu]
  · rw [gYs_u]; rfl
  · intro x hx
    rw [gYs_u]
    simp only [gNew, gPut, gZt, gZ]
    refine ⟨?_, ?_⟩
    · rw [if_neg (by omega), if_neg (by omega), if_neg (by omega), if_neg (by omega), if_neg (by omega), if_neg (by omega)]
    · rw [if_neg (by omega), if_neg (by omega), if_neg (by omega)]
  · rw [gYs_u]; simp only [gNew, gPut, gZt]; (repeat (first | rw [if_pos (by first | trivial | omega)] | rw [if_neg (by omega)]))
  · rw [gYs_u]; simp only [gNew, gPut, gZt]; (repeat (first | rw [if_pos (by first | trivial | omega)] | rw [if_neg (by omega)]))
  · rw [gYs_u]; simp only [gNew, gPut, gZt]; (repeat (first | rw [if_pos (by first | trivial | omega)] | rw [if_neg (by omega)]))
abbrev rmX4_init : Room := { frames := 1, cells := 1, slots := 120, locals := 20 }
set_option maxHeartbeats 4000000 in
set_option maxRecDepth 100000 in
theorem tX4_init (l : Launch) (G : gX) (hpl : gPl G) (u : gU) (a k : Nat) (hu : u.1 = k + 1) (h0 : gObs[k]? = some (a, 3, 0)) (h1 : gObs[k + 1]? = some (a + 2, 6, 120)) (σ : gM) : gMetC l G u (fun u1 σ1 => u1.1 = k + 2 ∧ u1.2.2 = u.2.2 ∧ (∀ x, (x < a ∨ a + 122 ≤ x) → u1.2.1 x = u.2.1 x ∧ σ1 x = σ x) ∧ u1.2.1 (a + 0) = a + 2 + 1 ∧ σ1 (a + 1) = σ (a + 1)) yX4_init (.code yX4_init cX4_init 1 none) rmX4_init [.ref a] σ 1 120 := by
  have hlt := gObs_lt h1
  refine gMetC_of hpl (by omega) (own := RX4) (k := 0) (by decide) rfl rfl (Nat.le_of_ble_eq_true rfl) [some (.ref a)] rfl (fun Y hG hY hnL hLn hRm hCs hz hini hao he => ?_)
  subst hG hY hLn
  refine r_aload_n (pc := 0) dX4_init_0 rfl rfl ?_
  refine r_objI (pc := 1) ⟨oiX4, oiC⟩ (by rw [hRm]; decide) (Nat.le_of_ble_eq_true rfl) dX4_init_1 ?_
  refine r_aload_n (pc := 4) dX4_init_4 rfl rfl ?_
  refine r_bipush (pc := 5) (v := 120) dX4_init_5 (by decide) ?_
  refine r_newI (pc := 7) (kd := 6) (a := (a + 2)) (len := 120) (by decide) (by decide) rfl (by intro z; simp [gTi]) rfl (by decide) (by decide) (by decide) ac_char dX4_init_7 (by first | (rw [gYs_u]; simp only [gNew, gPut, hu]; exact h1) | (rw [hu]; exact h1)) (by first | exact hz | exact gHz_s hz (by simp only [gNew, gPut] <;> omega) (by simp only [gNew, gPut] <;> omega)) (by have := gObs_lt h1; first | (rw [gYs_u]; simp only [gNew, gPut, hu]; omega) | (rw [hu]; omega)) (by first | (rw [hCs, hRm]; decide) | (rw [gYs_Cs, gYs_Rm, hRm]; decide)) ?_
  simp only [gYs_s, gYs_u, gYs_Cs, hCs, Nat.zero_add, Nat.reduceAdd]
  refine r_putR (pc := 9) (kd := 3) (j := 0) (a := a) (b := (a + 2)) tyX4 tyX4_ok nmX4 rfl (by decide) rfl (by decide) rfl inG3 kfX4_9 rfl rfl (by decide +kernel : parseFieldDescriptor _ = some (tyX4 0)) (Or.inr ⟨_, rfl⟩) (by first | exact hini | exact gIni_s hini) dX4_init_9 (by first | (rw [gYs_u]; exact gIn_at h0 (by simp only [gNew, gPut, hu]; omega)) | exact gIn_at h0 (by rw [hu]; omega)) ?_
  simp only [gYs_s, gYs_u, gYs_Cs, hCs, Nat.zero_add, Nat.reduceAdd]
  refine r_vretC (pc := 12) dX4_init_12 (gEndC_s he (by decide) (by decide)) ⟨?_, ?_, ?_, ?_, ?_⟩
  · rw [gYs_u]; simp only [gNew, gPut, hu]
  · rw [gYs_u]; rfl
  · intro x hx
    rw [gYs_u]
    simp only [gNew, gPut, gZt, gZ]
    refine ⟨?_, ?_⟩
    · rw [if_neg (by omega), if_neg (by omega)]
    · rw [if_neg (by omega)]
  · rw [gYs_u]; simp only [gNew, gPut, gZt]; (repeat (first | rw [if_pos (by first | trivial | omega)] | rw [if_neg (by omega)]))
  · simp only [gZ]; rw [if_neg (by omega)]
