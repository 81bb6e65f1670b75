/-! the constructors -/
theorem oiC : Cond.instanceMethod Lib.objectInit ∈ gG ∧ Cond.code Lib.objectInit ⟨#[0xb1]⟩ 1 none ∈ gG := ⟨gG_mem (List.mem_of_getElem? (i := 84) (by decide +kernel)) rfl, gG_mem (List.mem_of_getElem? (i := 85) (by decide +kernel)) rfl⟩
theorem ac_char : Cond.arrayClass .char ∈ gG := gG_mem (List.mem_of_getElem? (i := 100) (by decide +kernel)) rfl
theorem ac_int : Cond.arrayClass .int ∈ gG := gG_mem (List.mem_of_getElem? (i := 158) (by decide +kernel)) rfl
theorem ac_boolean : Cond.arrayClass .boolean ∈ gG := gG_mem (List.mem_of_getElem? (i := 157) (by decide +kernel)) rfl
theorem oiX0 : Cond.methodLink RX0 3 Lib.objectInit ∈ gG := gG_mem (List.mem_of_getElem? (i := 106) (by decide +kernel)) rfl
theorem oiX1 : Cond.methodLink RX1 3 Lib.objectInit ∈ gG := gG_mem (List.mem_of_getElem? (i := 113) (by decide +kernel)) rfl
theorem oiX2 : Cond.methodLink RX2 3 Lib.objectInit ∈ gG := gG_mem (List.mem_of_getElem? (i := 211) (by decide +kernel)) rfl
theorem oiX4 : Cond.methodLink RX4 3 Lib.objectInit ∈ gG := gG_mem (List.mem_of_getElem? (i := 91) (by decide +kernel)) rfl
theorem oiX5 : Cond.methodLink RX5 1 Lib.objectInit ∈ gG := gG_mem (List.mem_of_getElem? (i := 83) (by decide +kernel)) rfl
theorem nwL_8 : Cond.classLink RL 8 RX5 ∈ gG ∧ Cond.instantiable RX5 6 ∈ gG ∧ Cond.initialized RX5 ∈ gG := ⟨gG_mem (List.mem_of_getElem? (i := 78) (by decide +kernel)) rfl, gG_mem (List.mem_of_getElem? (i := 79) (by decide +kernel)) rfl, gG_mem (List.mem_of_getElem? (i := 59) (by decide +kernel)) rfl⟩
theorem nwX5_7 : Cond.classLink RX5 7 RX4 ∈ gG ∧ Cond.instantiable RX4 2 ∈ gG ∧ Cond.initialized RX4 ∈ gG := ⟨gG_mem (List.mem_of_getElem? (i := 86) (by decide +kernel)) rfl, gG_mem (List.mem_of_getElem? (i := 87) (by decide +kernel)) rfl, gG_mem (List.mem_of_getElem? (i := 60) (by decide +kernel)) rfl⟩
theorem nwX5_16 : Cond.classLink RX5 16 RX0 ∈ gG ∧ Cond.instantiable RX0 11 ∈ gG ∧ Cond.initialized RX0 ∈ gG := ⟨gG_mem (List.mem_of_getElem? (i := 101) (by decide +kernel)) rfl, gG_mem (List.mem_of_getElem? (i := 102) (by decide +kernel)) rfl, gG_mem (List.mem_of_getElem? (i := 61) (by decide +kernel)) rfl⟩
theorem nwX0_9 : Cond.classLink RX0 9 RX1 ∈ gG ∧ Cond.instantiable RX1 11 ∈ gG ∧ Cond.initialized RX1 ∈ gG := ⟨gG_mem (List.mem_of_getElem? (i := 107) (by decide +kernel)) rfl, gG_mem (List.mem_of_getElem? (i := 109) (by decide +kernel)) rfl, gG_mem (List.mem_of_getElem? (i := 62) (by decide +kernel)) rfl⟩
theorem nwX5_26 : Cond.classLink RX5 26 RX2 ∈ gG ∧ Cond.instantiable RX2 3 ∈ gG ∧ Cond.initialized RX2 ∈ gG := ⟨gG_mem (List.mem_of_getElem? (i := 206) (by decide +kernel)) rfl, gG_mem (List.mem_of_getElem? (i := 207) (by decide +kernel)) rfl, gG_mem (List.mem_of_getElem? (i := 64) (by decide +kernel)) rfl⟩
theorem nwX2_9 : Cond.classLink RX2 9 RX0 ∈ gG ∧ Cond.instantiable RX0 11 ∈ gG ∧ Cond.initialized RX0 ∈ gG := ⟨gG_mem (List.mem_of_getElem? (i := 212) (by decide +kernel)) rfl, gG_mem (List.mem_of_getElem? (i := 102) (by decide +kernel)) rfl, gG_mem (List.mem_of_getElem? (i := 61) (by decide +kernel)) rfl⟩
theorem ciL_212 : Cond.methodLink RL 212 yX5_init ∈ gG ∧ Cond.instanceMethod yX5_init ∈ gG ∧ Cond.initialized (yX5_init).cls ∈ gG := ⟨gG_mem (List.mem_of_getElem? (i := 80) (by decide +kernel)) rfl, gG_mem (List.mem_of_getElem? (i := 81) (by decide +kernel)) rfl, gG_mem (List.mem_of_getElem? (i := 59) (by decide +kernel)) rfl⟩
theorem ciX5_9 : Cond.methodLinkNest RX5 9 yX4_init "LoafRounds" ∈ gN ∧ Cond.instanceMethod yX4_init ∈ gG ∧ Cond.initialized (yX4_init).cls ∈ gG := ⟨gN_mem (List.mem_of_getElem? (i := 88) (by decide +kernel)) rfl, gG_mem (List.mem_of_getElem? (i := 89) (by decide +kernel)) rfl, gG_mem (List.mem_of_getElem? (i := 60) (by decide +kernel)) rfl⟩
theorem ciX5_18 : Cond.methodLinkNest RX5 18 yX0_init "LoafRounds" ∈ gN ∧ Cond.instanceMethod yX0_init ∈ gG ∧ Cond.initialized (yX0_init).cls ∈ gG := ⟨gN_mem (List.mem_of_getElem? (i := 103) (by decide +kernel)) rfl, gG_mem (List.mem_of_getElem? (i := 104) (by decide +kernel)) rfl, gG_mem (List.mem_of_getElem? (i := 61) (by decide +kernel)) rfl⟩
theorem ciX0_31 : Cond.methodLinkNest RX0 31 yX1_init "LoafRounds" ∈ gN ∧ Cond.instanceMethod yX1_init ∈ gG ∧ Cond.initialized (yX1_init).cls ∈ gG := ⟨gN_mem (List.mem_of_getElem? (i := 110) (by decide +kernel)) rfl, gG_mem (List.mem_of_getElem? (i := 111) (by decide +kernel)) rfl, gG_mem (List.mem_of_getElem? (i := 62) (by decide +kernel)) rfl⟩
theorem ciX5_28 : Cond.methodLinkNest RX5 28 yX2_init "LoafRounds" ∈ gN ∧ Cond.instanceMethod yX2_init ∈ gG ∧ Cond.initialized (yX2_init).cls ∈ gG := ⟨gN_mem (List.mem_of_getElem? (i := 208) (by decide +kernel)) rfl, gG_mem (List.mem_of_getElem? (i := 209) (by decide +kernel)) rfl, gG_mem (List.mem_of_getElem? (i := 64) (by decide +kernel)) rfl⟩
theorem ciX2_17 : Cond.methodLinkNest RX2 17 yX0_init "LoafRounds" ∈ gN ∧ Cond.instanceMethod yX0_init ∈ gG ∧ Cond.initialized (yX0_init).cls ∈ gG := ⟨gN_mem (List.mem_of_getElem? (i := 214) (by decide +kernel)) rfl, gG_mem (List.mem_of_getElem? (i := 104) (by decide +kernel)) rfl, gG_mem (List.mem_of_getElem? (i := 61) (by decide +kernel)) rfl⟩
theorem gObs_lt {k : Nat} {o : Nat × Nat × Nat} (h : gObs[k]? = some o) : k < 1670 := by
  have := (List.getElem?_eq_some_iff.mp h).1
  rw [gObs_len] at this
  exact this
abbrev rmX1_init : Room := { frames := 1, cells := 3, slots := 13, locals := 20 }
set_option maxHeartbeats 4000000 in
set_option maxRecDepth 100000 in
theorem tX1_init (l : Launch) (G : gX) (hpl : gPl G) (u : gU) (a k : Nat) (hu : u.1 = k + 1) (h0 : gObs[k]? = some (a, 1, 0)) (h1 : gObs[k + 1]? = some (a + 11, 7, 7)) (h2 : gObs[k + 2]? = some (a + 18, 7, 3)) (h3 : gObs[k + 3]? = some (a + 21, 7, 3)) (σ : gM) : gMetC l G u (fun u1 σ1 => u1.1 = k + 4 ∧ u1.2.2 = u.2.2 ∧ (∀ x, (x < a ∨ a + 24 ≤ x) → u1.2.1 x = u.2.1 x ∧ σ1 x = σ x) ∧ u1.2.1 (a + 8) = a + 11 + 1 ∧ u1.2.1 (a + 9) = a + 18 + 1 ∧ u1.2.1 (a + 10) = a + 21 + 1) yX1_init (.code yX1_init cX1_init 1 none) rmX1_init [.ref a] σ 3 13 := by
  have hlt := gObs_lt h3
  refine gMetC_of hpl (by omega) (own := RX1) (k := 0) (by decide) rfl rfl (Nat.le_of_ble_eq_true rfl) [some (.ref a)] rfl (fun Y hG hY hnL hLn hRm hCs hz hini hao he => ?_)
  subst hG hY hLn
  refine r_aload_n (pc := 0) dX1_init_0 rfl rfl ?_
  refine r_objI (pc := 1) ⟨oiX1, oiC⟩ (by rw [hRm]; decide) (Nat.le_of_ble_eq_true rfl) dX1_init_1 ?_
  refine r_aload_n (pc := 4) dX1_init_4 rfl rfl ?_
  refine r_bipush (pc := 5) (v := 7) dX1_init_5 (by decide) ?_
  refine r_newI (pc := 7) (kd := 7) (a := (a + 11)) (len := 7) (by decide) (by decide) rfl (by intro z; simp [gTi]) rfl (by decide) (by decide) (by decide) ac_int dX1_init_7 (by first | (rw [gYs_u]; simp only [gNew, gPut, hu]; exact h1) | (rw [hu]; exact h1)) (by first | exact hz | exact gHz_s hz (by simp only [gNew, gPut] <;> omega) (by simp only [gNew, gPut] <;> omega)) (by have := gObs_lt h1; first | (rw [gYs_u]; simp only [gNew, gPut, hu]; omega) | (rw [hu]; omega)) (by first | (rw [hCs, hRm]; decide) | (rw [gYs_Cs, gYs_Rm, hRm]; decide)) ?_
  simp only [gYs_s, gYs_u, gYs_Cs, hCs, Nat.zero_add, Nat.reduceAdd]
  refine r_putR (pc := 9) (kd := 1) (j := 8) (a := a) (b := (a + 11)) tyX1 tyX1_ok nmX1 rfl (by decide) rfl (by decide) rfl inG1 kfX1_9 rfl rfl (by decide +kernel : parseFieldDescriptor _ = some (tyX1 8)) (Or.inr ⟨_, rfl⟩) (by first | exact hini | exact gIni_s hini) dX1_init_9 (by first | (rw [gYs_u]; exact gIn_at h0 (by simp only [gNew, gPut, hu]; omega)) | exact gIn_at h0 (by rw [hu]; omega)) ?_
  simp only [gYs_s, gYs_u, gYs_Cs, hCs, Nat.zero_add, Nat.reduceAdd]
  refine r_aload_n (pc := 12) dX1_init_12 rfl rfl ?_
  refine r_iconst (pc := 13) (v := 3) dX1_init_13 (by decide) ?_
  refine r_newI (pc := 14) (kd := 7) (a := (a + 18)) (len := 3) (by decide) (by decide) rfl (by intro z; simp [gTi]) rfl (by decide) (by decide) (by decide) ac_int dX1_init_14 (by first | (rw [gYs_u]; simp only [gNew, gPut, hu]; exact h2) | (rw [hu]; exact h2)) (by first | exact hz | exact gHz_s hz (by simp only [gNew, gPut] <;> omega) (by simp only [gNew, gPut] <;> omega)) (by have := gObs_lt h2; first | (rw [gYs_u]; simp only [gNew, gPut, hu]; omega) | (rw [hu]; omega)) (by first | (rw [hCs, hRm]; decide) | (rw [gYs_Cs, gYs_Rm, hRm]; decide)) ?_
  simp only [gYs_s, gYs_u, gYs_Cs, hCs, Nat.zero_add, Nat.reduceAdd]
  refine r_putR (pc := 16) (kd := 1) (j := 9) (a := a) (b := (a + 18)) tyX1 tyX1_ok nmX1 rfl (by decide) rfl (by decide) rfl inG1 kfX1_15 rfl rfl (by decide +kernel : parseFieldDescriptor _ = some (tyX1 9)) (Or.inr ⟨_, rfl⟩) (by first | exact hini | exact gIni_s hini) dX1_init_16 (by first | (rw [gYs_u]; exact gIn_at h0 (by simp only [gNew, gPut, hu]; omega)) | exact gIn_at h0 (by rw [hu]; omega)) ?_
  simp only [gYs_s, gYs_u, gYs_Cs, hCs, Nat.zero_add, Nat.reduceAdd]
  refine r_aload_n (pc := 19) dX1_init_19 rfl rfl ?_
  refine r_iconst (pc := 20) (v := 3) dX1_init_20 (by decide) ?_
  refine r_newI (pc := 21) (kd := 7) (a := (a + 21)) (len := 3) (by decide) (by decide) rfl (by intro z; simp [gTi]) rfl (by decide) (by decide) (by decide) ac_int dX1_init_21 (by first | (rw [gYs_u]; simp only [gNew, gPut, hu]; exact h3) | (rw [hu]; exact h3)) (by first | exact hz | exact gHz_s hz (by simp only [gNew, gPut] <;> omega) (by simp only [gNew, gPut] <;> omega)) (by have := gObs_lt h3; first | (rw [gYs_u]; simp only [gNew, gPut, hu]; omega) | (rw [hu]; omega)) (by first | (rw [hCs, hRm]; decide) | (rw [gYs_Cs, gYs_Rm, hRm]; decide)) ?_
  simp only [gYs_s, gYs_u, gYs_Cs, hCs, Nat.zero_add, Nat.reduceAdd]
  refine r_putR (pc := 23) (kd := 1) (j := 10) (a := a) (b := (a + 21)) tyX1 tyX1_ok nmX1 rfl (by decide) rfl (by decide) rfl inG1 kfX1_18 rfl rfl (by decide +kernel : parseFieldDescriptor _ = some (tyX1 10)) (Or.inr ⟨_, rfl⟩) (by first | exact hini | exact gIni_s hini) dX1_init_23 (by first | (rw [gYs_u]; exact gIn_at h0 (by simp only [gNew, gPut, hu]; omega)) | exact gIn_at h0 (by rw [hu]; omega)) ?_
  simp only [gYs_s, gYs_u, gYs_Cs, hCs, Nat.zero_add, Nat.reduceAdd]
  refine r_vretC (pc := 26) dX1_init_26 (gEndC_s he (by decide) (by decide)) ⟨?_, ?_, ?_, ?_, ?_, ?_⟩
  · rw [gYs_u]; simp only [gNew, gPut, hu]
  · rw [gYs_u]; rfl
  · intro x hx
    rw [gYs_u]
    simp only [gNew, gPut, gZt, gZ]
    refine ⟨?_, ?_⟩
    · rw [if_neg (by omega), if_neg (by omega), if_neg (by omega), if_neg (by omega), if_neg (by omega), if_neg (by omega)]
    · rw [if_neg (by omega), if_neg (by omega), if_neg (by omega)]
  · rw [gYs_u]; simp only [gNew, gPut, gZt]; (repeat (first | rw [if_pos (by first | trivial | omega)] | rw [if_neg (by omega)]))
  · rw [gYs_u]; simp only [gNew, gPut, gZt]; (repeat (first | rw [if_pos (by first | trivial | omega)] | rw [if_neg (by omega)]))
  · rw [gYs_u]; simp only [gNew, gPut, gZt]; (repeat (first | rw [if_pos (by first | trivial | omega)] | rw [if_neg (by omega)]))
abbrev rmX4_init : Room := { frames := 1, cells := 1, slots := 120, locals := 20 }
set_option maxHeartbeats 4000000 in
set_option maxRecDepth 100000 in
theorem tX4_init (l : Launch) (G : gX) (hpl : gPl G) (u : gU) (a k : Nat) (hu : u.1 = k + 1) (h0 : gObs[k]? = some (a, 3, 0)) (h1 : gObs[k + 1]? = some (a + 2, 6, 120)) (σ : gM) : gMetC l G u (fun u1 σ1 => u1.1 = k + 2 ∧ u1.2.2 = u.2.2 ∧ (∀ x, (x < a ∨ a + 122 ≤ x) → u1.2.1 x = u.2.1 x ∧ σ1 x = σ x) ∧ u1.2.1 (a + 0) = a + 2 + 1 ∧ σ1 (a + 1) = σ (a + 1)) yX4_init (.code yX4_init cX4_init 1 none) rmX4_init [.ref a] σ 1 120 := by
  have hlt := gObs_lt h1
  refine gMetC_of hpl (by omega) (own := RX4) (k := 0) (by decide) rfl rfl (Nat.le_of_ble_eq_true rfl) [some (.ref a)] rfl (fun Y hG hY hnL hLn hRm hCs hz hini hao he => ?_)
  subst hG hY hLn
  refine r_aload_n (pc := 0) dX4_init_0 rfl rfl ?_
  refine r_objI (pc := 1) ⟨oiX4, oiC⟩ (by rw [hRm]; decide) (Nat.le_of_ble_eq_true rfl) dX4_init_1 ?_
  refine r_aload_n (pc := 4) dX4_init_4 rfl rfl ?_
  refine r_bipush (pc := 5) (v := 120) dX4_init_5 (by decide) ?_
  refine r_newI (pc := 7) (kd := 6) (a := (a + 2)) (len := 120) (by decide) (by decide) rfl (by intro z; simp [gTi]) rfl (by decide) (by decide) (by decide) ac_char dX4_init_7 (by first | (rw [gYs_u]; simp only [gNew, gPut, hu]; exact h1) | (rw [hu]; exact h1)) (by first | exact hz | exact gHz_s hz (by simp only [gNew, gPut] <;> omega) (by simp only [gNew, gPut] <;> omega)) (by have := gObs_lt h1; first | (rw [gYs_u]; simp only [gNew, gPut, hu]; omega) | (rw [hu]; omega)) (by first | (rw [hCs, hRm]; decide) | (rw [gYs_Cs, gYs_Rm, hRm]; decide)) ?_
  simp only [gYs_s, gYs_u, gYs_Cs, hCs, Nat.zero_add, Nat.reduceAdd]
  refine r_putR (pc := 9) (kd := 3) (j := 0) (a := a) (b := (a + 2)) tyX4 tyX4_ok nmX4 rfl (by decide) rfl (by decide) rfl inG3 kfX4_9 rfl rfl (by decide +kernel : parseFieldDescriptor _ = some (tyX4 0)) (Or.inr ⟨_, rfl⟩) (by first | exact hini | exact gIni_s hini) dX4_init_9 (by first | (rw [gYs_u]; exact gIn_at h0 (by simp only [gNew, gPut, hu]; omega)) | exact gIn_at h0 (by rw [hu]; omega)) ?_
  simp only [gYs_s, gYs_u, gYs_Cs, hCs, Nat.zero_add, Nat.reduceAdd]
  refine r_vretC (pc := 12) dX4_init_12 (gEndC_s he (by decide) (by decide)) ⟨?_, ?_, ?_, ?_, ?_⟩
  · rw [gYs_u]; simp only [gNew, gPut, hu]
  · rw [gYs_u]; rfl
  · intro x hx
    rw [gYs_u]
    simp only [gNew, gPut, gZt, gZ]
    refine ⟨?_, ?_⟩
    · rw [if_neg (by omega), if_neg (by omega)]
    · rw [if_neg (by omega)]
  · rw [gYs_u]; simp only [gNew, gPut, gZt]; (repeat (first | rw [if_pos (by first | trivial | omega)] | rw [if_neg (by omega)]))
  · simp only [gZ]; rw [if_neg (by omega)]
theorem fX0_17C {Y : gY} {cc : ByteArray} {pc : Nat} {ls : List (Option Value)} {st : List Value} {σ : gM} {a : Nat} (hx : Y.2.1.2.1 (a + 7) = a + 21 + 1 ∧ gIn Y.2.1 (a + 21) 8 28) (hd : decode cc pc = .ok (.getfield 17, 3)) (ha : gIn Y.2.1 a 0 0) (k : gIn Y.2.1 (a + 21) 8 28 → AW Y cc RX0 (pc + 3) ls (.ref (a + 21) :: st) σ) : AW Y cc RX0 pc ls (.ref a :: st) σ := r_getR (kd := 0) (j := 7) (C := RX0) (T := TX0) (N := 11) rfl (by decide) rfl (by decide) rfl inG0 kfX0_17 hd ha hx.1 (k hx.2)
theorem fX0_21C {Y : gY} {cc : ByteArray} {pc : Nat} {ls : List (Option Value)} {st : List Value} {σ : gM} {a : Nat} (hx : Y.2.1.2.1 (a + 8) = a + 49 + 1 ∧ gIn Y.2.1 (a + 49) 7 4) (hd : decode cc pc = .ok (.getfield 21, 3)) (ha : gIn Y.2.1 a 0 0) (k : gIn Y.2.1 (a + 49) 7 4 → AW Y cc RX0 (pc + 3) ls (.ref (a + 49) :: st) σ) : AW Y cc RX0 pc ls (.ref a :: st) σ := r_getR (kd := 0) (j := 8) (C := RX0) (T := TX0) (N := 11) rfl (by decide) rfl (by decide) rfl inG0 kfX0_21 hd ha hx.1 (k hx.2)
theorem fX0_25C {Y : gY} {cc : ByteArray} {pc : Nat} {ls : List (Option Value)} {st : List Value} {σ : gM} {a : Nat} (hx : Y.2.1.2.1 (a + 9) = a + 53 + 1 ∧ gIn Y.2.1 (a + 53) 7 5) (hd : decode cc pc = .ok (.getfield 25, 3)) (ha : gIn Y.2.1 a 0 0) (k : gIn Y.2.1 (a + 53) 7 5 → AW Y cc RX0 (pc + 3) ls (.ref (a + 53) :: st) σ) : AW Y cc RX0 pc ls (.ref a :: st) σ := r_getR (kd := 0) (j := 9) (C := RX0) (T := TX0) (N := 11) rfl (by decide) rfl (by decide) rfl inG0 kfX0_25 hd ha hx.1 (k hx.2)
set_option maxHeartbeats 4000000 in
set_option maxRecDepth 100000 in
theorem tX0_makeNewC (l : Launch) (G : gX) (u : gU) (a0 : Nat) (hx7 : ∀ a, a = a0 → u.2.1 (a + 7) = a + 21 + 1 ∧ gIn u (a + 21) 8 28) (hx8 : ∀ a, a = a0 → u.2.1 (a + 8) = a + 49 + 1 ∧ gIn u (a + 49) 7 4) (hx9 : ∀ a, a = a0 → u.2.1 (a + 9) = a + 53 + 1 ∧ gIn u (a + 53) 7 5) (m : gM) (o : gM) (h : fX0_makeNew a0 m = some o) (h0 : gIn u a0 0 0) : gMet l G u yX0_makeNew (.code yX0_makeNew cX0_makeNew 2 none) rmX0_makeNew [.ref a0] m o none := by
  refine gMet_of (own := RX0) (k := 1) (by decide) rfl ⟨rfl, rfl⟩ (Nat.le_of_ble_eq_true rfl) [some (.ref a0), none] rfl (fun Y hG hu hnL hLn hRm he => ?_)
  subst hG hu hLn
  unfold fX0_makeNew at h
  refine r_aload_n (pc := 0) dX0_makeNew_0 rfl rfl ?_
  refine r_iconst (pc := 1) (v := 0) dX0_makeNew_1 (by decide) ?_
  refine fX0_35p (pc := 2) dX0_makeNew_2 h0 h (fun m1 h => ?_)
  refine r_aload_n (pc := 5) dX0_makeNew_5 rfl rfl ?_
  refine r_iconst (pc := 6) (v := 0) dX0_makeNew_6 (by decide) ?_
  refine fX0_39p (pc := 7) dX0_makeNew_7 h0 h (fun m2 h => ?_)
  refine r_aload_n (pc := 10) dX0_makeNew_10 rfl rfl ?_
  refine r_iconst (pc := 11) (v := 0) dX0_makeNew_11 (by decide) ?_
  refine fX0_42p (pc := 12) dX0_makeNew_12 h0 h (fun m3 h => ?_)
  refine r_aload_n (pc := 15) dX0_makeNew_15 rfl rfl ?_
  refine r_iconst (pc := 16) (v := 0) dX0_makeNew_16 (by decide) ?_
  refine fX0_45p (pc := 17) dX0_makeNew_17 h0 h (fun m4 h => ?_)
  refine r_aload_n (pc := 20) dX0_makeNew_20 rfl rfl ?_
  refine r_iconst (pc := 21) (v := 0) dX0_makeNew_21 (by decide) ?_
  refine fX0_48p (pc := 22) dX0_makeNew_22 h0 h (fun m5 h => ?_)
  refine r_aload_n (pc := 25) dX0_makeNew_25 rfl rfl ?_
  refine r_iconst (pc := 26) (v := 0) dX0_makeNew_26 (by decide) ?_
  refine fX0_51p (pc := 27) dX0_makeNew_27 h0 h (fun m6 h => ?_)
  refine r_iconst (pc := 30) (v := 0) dX0_makeNew_30 (by decide) ?_
  refine r_istore_n (pc := 31) dX0_makeNew_31 rfl (by rw [hnL]; decide) rfl ?_
  have L27 : ∀ (n25 : Nat) (v28 : Int32) (m29 : gM), fX0_makeNew_L32 a0 n25 v28 m29 = some o → AW Y cX0_makeNew RX0 32 [some (.ref a0), some (.int v28)] [] m29 := by
    intro n25
    induction n25 with
    | zero =>
      intro v28 m29 h
      exact absurd h (by simp [fX0_makeNew_L32])
    | succ n25 ih26 =>
      intro v28 m29 h
      rw [fX0_makeNew_L32] at h
      refine r_iload_n (pc := 32) dX0_makeNew_32 rfl rfl ?_
      refine r_bipush (pc := 33) (v := 28) dX0_makeNew_33 (by decide) ?_
      refine r_icmp_ge (pc := 35) (tgt := 51) dX0_makeNew_35 (by decide) h (fun h => ?_) (fun h => ?_)
      · refine r_iconst (pc := 51) (v := 0) dX0_makeNew_51 (by decide) ?_
        refine r_istore_n (pc := 52) dX0_makeNew_52 rfl (by rw [hnL]; decide) rfl ?_
        have L32 : ∀ (n30 : Nat) (v33 : Int32) (m34 : gM), fX0_makeNew_L53 a0 (fX0_makeNew_L32 a0 n25) n30 v33 m34 = some o → AW Y cX0_makeNew RX0 53 [some (.ref a0), some (.int v33)] [] m34 := by
          intro n30
          induction n30 with
          | zero =>
            intro v33 m34 h
            exact absurd h (by simp [fX0_makeNew_L53])
          | succ n30 ih31 =>
            intro v33 m34 h
            rw [fX0_makeNew_L53] at h
            refine r_iload_n (pc := 53) dX0_makeNew_53 rfl rfl ?_
            refine r_iconst (pc := 54) (v := 4) dX0_makeNew_54 (by decide) ?_
            refine r_icmp_ge (pc := 55) (tgt := 71) dX0_makeNew_55 (by decide) h (fun h => ?_) (fun h => ?_)
            · refine sX0_54 (pc := 71) dX0_makeNew_71 ?_
              refine r_iconst (pc := 74) (v := 0) dX0_makeNew_74 (by decide) ?_
              refine r_aload_n (pc := 75) dX0_makeNew_75 rfl rfl ?_
              refine fX0_25C (pc := 76) (hx9 _ rfl) dX0_makeNew_76 h0 (fun b35 => ?_)
              refine r_iconst (pc := 79) (v := 0) dX0_makeNew_79 (by decide) ?_
              refine r_iconst (pc := 80) (v := 5) dX0_makeNew_80 (by decide) ?_
              refine r_cpT (pc := 81) dX0_makeNew_81 mwX0_57 (by rw [hRm]; decide) (Nat.le_of_ble_eq_true rfl) b35 h (fun m36 h => ?_)
              exact r_vretH dX0_makeNew_84 h he
            · refine r_aload_n (pc := 58) dX0_makeNew_58 rfl rfl ?_
              refine fX0_21C (pc := 59) (hx8 _ rfl) dX0_makeNew_59 h0 (fun b37 => ?_)
              refine r_iload_n (pc := 62) dX0_makeNew_62 rfl rfl ?_
              refine r_iload_n (pc := 63) dX0_makeNew_63 rfl rfl ?_
              refine r_iast (pc := 64) dX0_makeNew_64 b37 h (fun m38 h => ?_)
              refine r_iinc (pc := 65) (d := 1) dX0_makeNew_65 rfl (by decide) (by rw [hnL]; decide) h (fun x39 h => ?_)
              refine r_goto (pc := 68) (tgt := 53) dX0_makeNew_68 (by decide) ?_
              exact r_mask [true, true] rfl (ih31 _ _ h)
        exact r_mask [true, true] rfl (L32 _ _ _ h)
      · refine r_aload_n (pc := 38) dX0_makeNew_38 rfl rfl ?_
        refine fX0_17C (pc := 39) (hx7 _ rfl) dX0_makeNew_39 h0 (fun b40 => ?_)
        refine r_iload_n (pc := 42) dX0_makeNew_42 rfl rfl ?_
        refine r_iconst (pc := 43) (v := 0) dX0_makeNew_43 (by decide) ?_
        refine r_zast (pc := 44) dX0_makeNew_44 b40 h (fun m41 h => ?_)
        refine r_iinc (pc := 45) (d := 1) dX0_makeNew_45 rfl (by decide) (by rw [hnL]; decide) h (fun x42 h => ?_)
        refine r_goto (pc := 48) (tgt := 32) dX0_makeNew_48 (by decide) ?_
        exact r_mask [true, true] rfl (ih26 _ _ h)
  exact r_mask [true, true] rfl (L27 _ _ _ h)
/-- what is known of the references of a book at b -/
def gRB (b : Nat) (τ : Nat → Nat) : Prop := τ (b + 6) = b + 11 + 1 ∧ τ (b + 7) = b + 21 + 1 ∧ τ (b + 8) = b + 49 + 1 ∧ τ (b + 9) = b + 53 + 1 ∧ τ (b + 10) = b + 58 + 1
def gRC (a : Nat) (τ : Nat → Nat) : Prop := τ (a + 8) = a + 11 + 1 ∧ τ (a + 9) = a + 18 + 1 ∧ τ (a + 10) = a + 21 + 1
def gRE (b c : Nat) (τ : Nat → Nat) : Prop := ∀ i, i < c → τ (b + 11 + i) = b + 68 + 24 * i + 1 ∧ gRC (b + 68 + 24 * i) τ
def gBookRel (b : Nat) (u : gU) (σ : gM) (u1 : gU) (σ1 : gM) : Prop := u1.1 = u.1 + 45 ∧ u1.2.2 = u.2.2 ∧ (∀ x, (x < b ∨ b + 308 ≤ x) → u1.2.1 x = u.2.1 x ∧ σ1 x = σ x) ∧ gRB b u1.2.1 ∧ gRE b 10 u1.2.1 ∧ ∃ σ' : gM, fX0_makeNew b σ' = some σ1
def gMkOk : Prop := ∀ (b : Nat) (m : gM), ∃ o : gM, fX0_makeNew b m = some o ∧ ∀ x, (x < b ∨ b + 308 ≤ x) → o x = m x
def gObsBk (b k : Nat) : Prop := ∀ i, i < 46 → gObs[k + i]? = (gBk b)[i]?
theorem gBk_c (b : Nat) : ∀ c, c < 10 → (gBk b)[6 + 4 * c]? = some (b + 68 + 24 * c, 1, 0) ∧ (gBk b)[6 + 4 * c + 1]? = some (b + 68 + 24 * c + 11, 7, 7) ∧ (gBk b)[6 + 4 * c + 2]? = some (b + 68 + 24 * c + 18, 7, 3) ∧ (gBk b)[6 + 4 * c + 3]? = some (b + 68 + 24 * c + 21, 7, 3) := by
  intro c hc
  rcases (show c = 0 ∨ c = 1 ∨ c = 2 ∨ c = 3 ∨ c = 4 ∨ c = 5 ∨ c = 6 ∨ c = 7 ∨ c = 8 ∨ c = 9 by omega) with q | q | q | q | q | q | q | q | q | q <;> subst q <;> exact ⟨rfl, rfl, rfl, rfl⟩
theorem gIncE {x d : Int32} : gLt (x + d) (fun y => if y = x + d then some () else none) = some () := by simp [gLt]
theorem gIncD {x y d : Int32} (h : (if y = x + d then some () else none) = some ()) : y = x + d := by
  split at h
  · assumption
  · cases h
theorem gGe {c n : Nat} (hc : c < 2147483648) (hn : n < 2147483648) : Int32.ofNat n ≤ Int32.ofNat c ↔ n ≤ c := Int32.ofNat_le_iff_le (by omega) (by omega)
theorem gSuc (c : Nat) : Int32.ofNat c + 1 = Int32.ofNat (c + 1) := by rw [Int32.ofNat_add]; rfl
theorem gVin2 {c n : Nat} (h : c < n) (hn : n < 1000) : vp_in (Int32.ofNat c) n ∧ (Int32.ofNat c).toNatClampNeg = c := by
  have h1 : (Int32.ofNat c).toNatClampNeg = c := Int32.toNatClampNeg_ofNat_of_lt (by omega)
  refine ⟨?_, h1⟩
  unfold vp_in
  rw [h1]
  intro q
  rcases q with q | q
  · have := Int32.lt_iff_toInt_lt.mp q
    rw [Int32.toInt_ofNat_of_lt (by omega)] at this
    simp at this
    omega
  · omega
abbrev rmX0_init : Room := { frames := 2, cells := 45, slots := 297, locals := 61 }
set_option maxHeartbeats 4000000 in
set_option maxRecDepth 100000 in
theorem tX0_init (l : Launch) (G : gX) (hpl : gPl G) (hmk : gMkOk) (u : gU) (b k : Nat) (hu : u.1 = k + 1) (hB : gObsBk b k) (σ : gM) : gMetC l G u (gBookRel b u σ) yX0_init (.code yX0_init cX0_init 2 none) rmX0_init [.ref b] σ 45 297 := by
  have h0 : gObs[k]? = some (b, 0, 0) := hB 0 (by decide)
  have h1 : gObs[k + 1]? = some (b + 11, 10, 10) := hB 1 (by decide)
  have h2 : gObs[k + 2]? = some (b + 21, 8, 28) := hB 2 (by decide)
  have h3 : gObs[k + 3]? = some (b + 49, 7, 4) := hB 3 (by decide)
  have h4 : gObs[k + 4]? = some (b + 53, 7, 5) := hB 4 (by decide)
  have h5 : gObs[k + 5]? = some (b + 58, 7, 10) := hB 5 (by decide)
  have h45 : gObs[k + 45]? = some (b + 305, 7, 3) := hB 45 (by decide)
  have hlt := gObs_lt h45
  refine gMetC_of hpl (by omega) (own := RX0) (k := 1) (by decide) rfl rfl (Nat.le_of_ble_eq_true rfl) [some (.ref b), none] rfl (fun Y hG hY hnL hLn hRm hCs hz hini hao he => ?_)
  subst hG hY hLn
  refine r_aload_n (pc := 0) dX0_init_0 rfl rfl ?_
  refine r_objI (pc := 1) ⟨oiX0, oiC⟩ (by rw [hRm]; decide) (Nat.le_of_ble_eq_true rfl) dX0_init_1 ?_
  refine r_aload_n (pc := 4) dX0_init_4 rfl rfl ?_
  refine r_bipush (pc := 5) (v := 10) dX0_init_5 (by decide) ?_
  refine r_newQ (pc := 7) (kd := 10) (a := (b + 11)) (len := 10) (by decide) (by decide) rfl (by decide) (by decide) (by decide) nwX0_9.1 (by first | exact hao | exact gAOy_s hao) (fun _ h => h.2) dX0_init_7 (by first | (rw [gYs_u]; simp only [gNew, gPut, hu]; exact h1) | (rw [hu]; exact h1)) (by first | exact hz | exact gHz_s hz (by simp only [gNew, gPut] <;> omega) (by simp only [gNew, gPut] <;> omega)) (by have := gObs_lt h1; first | (rw [gYs_u]; simp only [gNew, gPut, hu]; omega) | (rw [hu]; omega)) (by first | (rw [hCs, hRm]; decide) | (rw [gYs_Cs, gYs_Rm, hRm]; decide)) ?_
  simp only [gYs_s, gYs_u, gYs_Cs, hCs, Nat.zero_add, Nat.reduceAdd]
  refine r_putR (pc := 10) (kd := 0) (j := 6) (a := b) (b := (b + 11)) tyX0 tyX0_ok nmX0 rfl (by decide) rfl (by decide) rfl inG0 kfX0_11 rfl rfl (by decide +kernel : parseFieldDescriptor _ = some (tyX0 6)) (Or.inr ⟨_, rfl⟩) (by first | exact hini | exact gIni_s hini) dX0_init_10 (by first | (rw [gYs_u]; exact gIn_at h0 (by simp only [gNew, gPut, hu]; omega)) | exact gIn_at h0 (by rw [hu]; omega)) ?_
  simp only [gYs_s, gYs_u, gYs_Cs, hCs, Nat.zero_add, Nat.reduceAdd]
  refine r_aload_n (pc := 13) dX0_init_13 rfl rfl ?_
  refine r_bipush (pc := 14) (v := 28) dX0_init_14 (by decide) ?_
  refine r_newI (pc := 16) (kd := 8) (a := (b + 21)) (len := 28) (by decide) (by decide) rfl (by intro z; simp [gTi]) rfl (by decide) (by decide) (by decide) ac_boolean dX0_init_16 (by first | (rw [gYs_u]; simp only [gNew, gPut, hu]; exact h2) | (rw [hu]; exact h2)) (by first | exact hz | exact gHz_s hz (by simp only [gNew, gPut] <;> omega) (by simp only [gNew, gPut] <;> omega)) (by have := gObs_lt h2; first | (rw [gYs_u]; simp only [gNew, gPut, hu]; omega) | (rw [hu]; omega)) (by first | (rw [hCs, hRm]; decide) | (rw [gYs_Cs, gYs_Rm, hRm]; decide)) ?_
  simp only [gYs_s, gYs_u, gYs_Cs, hCs, Nat.zero_add, Nat.reduceAdd]
  refine r_putR (pc := 18) (kd := 0) (j := 7) (a := b) (b := (b + 21)) tyX0 tyX0_ok nmX0 rfl (by decide) rfl (by decide) rfl inG0 kfX0_17 rfl rfl (by decide +kernel : parseFieldDescriptor _ = some (tyX0 7)) (Or.inr ⟨_, rfl⟩) (by first | exact hini | exact gIni_s hini) dX0_init_18 (by first | (rw [gYs_u]; exact gIn_at h0 (by simp only [gNew, gPut, hu]; omega)) | exact gIn_at h0 (by rw [hu]; omega)) ?_
  simp only [gYs_s, gYs_u, gYs_Cs, hCs, Nat.zero_add, Nat.reduceAdd]
  refine r_aload_n (pc := 21) dX0_init_21 rfl rfl ?_
  refine r_iconst (pc := 22) (v := 4) dX0_init_22 (by decide) ?_
  refine r_newI (pc := 23) (kd := 7) (a := (b + 49)) (len := 4) (by decide) (by decide) rfl (by intro z; simp [gTi]) rfl (by decide) (by decide) (by decide) ac_int dX0_init_23 (by first | (rw [gYs_u]; simp only [gNew, gPut, hu]; exact h3) | (rw [hu]; exact h3)) (by first | exact hz | exact gHz_s hz (by simp only [gNew, gPut] <;> omega) (by simp only [gNew, gPut] <;> omega)) (by have := gObs_lt h3; first | (rw [gYs_u]; simp only [gNew, gPut, hu]; omega) | (rw [hu]; omega)) (by first | (rw [hCs, hRm]; decide) | (rw [gYs_Cs, gYs_Rm, hRm]; decide)) ?_
  simp only [gYs_s, gYs_u, gYs_Cs, hCs, Nat.zero_add, Nat.reduceAdd]
  refine r_putR (pc := 25) (kd := 0) (j := 8) (a := b) (b := (b + 49)) tyX0 tyX0_ok nmX0 rfl (by decide) rfl (by decide) rfl inG0 kfX0_21 rfl rfl (by decide +kernel : parseFieldDescriptor _ = some (tyX0 8)) (Or.inr ⟨_, rfl⟩) (by first | exact hini | exact gIni_s hini) dX0_init_25 (by first | (rw [gYs_u]; exact gIn_at h0 (by simp only [gNew, gPut, hu]; omega)) | exact gIn_at h0 (by rw [hu]; omega)) ?_
  simp only [gYs_s, gYs_u, gYs_Cs, hCs, Nat.zero_add, Nat.reduceAdd]
  refine r_aload_n (pc := 28) dX0_init_28 rfl rfl ?_
  refine r_iconst (pc := 29) (v := 5) dX0_init_29 (by decide) ?_
  refine r_newI (pc := 30) (kd := 7) (a := (b + 53)) (len := 5) (by decide) (by decide) rfl (by intro z; simp [gTi]) rfl (by decide) (by decide) (by decide) ac_int dX0_init_30 (by first | (rw [gYs_u]; simp only [gNew, gPut, hu]; exact h4) | (rw [hu]; exact h4)) (by first | exact hz | exact gHz_s hz (by simp only [gNew, gPut] <;> omega) (by simp only [gNew, gPut] <;> omega)) (by have := gObs_lt h4; first | (rw [gYs_u]; simp only [gNew, gPut, hu]; omega) | (rw [hu]; omega)) (by first | (rw [hCs, hRm]; decide) | (rw [gYs_Cs, gYs_Rm, hRm]; decide)) ?_
  simp only [gYs_s, gYs_u, gYs_Cs, hCs, Nat.zero_add, Nat.reduceAdd]
  refine r_putR (pc := 32) (kd := 0) (j := 9) (a := b) (b := (b + 53)) tyX0 tyX0_ok nmX0 rfl (by decide) rfl (by decide) rfl inG0 kfX0_25 rfl rfl (by decide +kernel : parseFieldDescriptor _ = some (tyX0 9)) (Or.inr ⟨_, rfl⟩) (by first | exact hini | exact gIni_s hini) dX0_init_32 (by first | (rw [gYs_u]; exact gIn_at h0 (by simp only [gNew, gPut, hu]; omega)) | exact gIn_at h0 (by rw [hu]; omega)) ?_
  simp only [gYs_s, gYs_u, gYs_Cs, hCs, Nat.zero_add, Nat.reduceAdd]
  refine r_aload_n (pc := 35) dX0_init_35 rfl rfl ?_
  refine r_bipush (pc := 36) (v := 10) dX0_init_36 (by decide) ?_
  refine r_newI (pc := 38) (kd := 7) (a := (b + 58)) (len := 10) (by decide) (by decide) rfl (by intro z; simp [gTi]) rfl (by decide) (by decide) (by decide) ac_int dX0_init_38 (by first | (rw [gYs_u]; simp only [gNew, gPut, hu]; exact h5) | (rw [hu]; exact h5)) (by first | exact hz | exact gHz_s hz (by simp only [gNew, gPut] <;> omega) (by simp only [gNew, gPut] <;> omega)) (by have := gObs_lt h5; first | (rw [gYs_u]; simp only [gNew, gPut, hu]; omega) | (rw [hu]; omega)) (by first | (rw [hCs, hRm]; decide) | (rw [gYs_Cs, gYs_Rm, hRm]; decide)) ?_
  simp only [gYs_s, gYs_u, gYs_Cs, hCs, Nat.zero_add, Nat.reduceAdd]
  refine r_putR (pc := 40) (kd := 0) (j := 10) (a := b) (b := (b + 58)) tyX0 tyX0_ok nmX0 rfl (by decide) rfl (by decide) rfl inG0 kfX0_28 rfl rfl (by decide +kernel : parseFieldDescriptor _ = some (tyX0 10)) (Or.inr ⟨_, rfl⟩) (by first | exact hini | exact gIni_s hini) dX0_init_40 (by first | (rw [gYs_u]; exact gIn_at h0 (by simp only [gNew, gPut, hu]; omega)) | exact gIn_at h0 (by rw [hu]; omega)) ?_
  simp only [gYs_s, gYs_u, gYs_Cs, hCs, Nat.zero_add, Nat.reduceAdd]
  refine r_iconst (pc := 43) (v := 0) dX0_init_43 (by decide) ?_
  refine r_istore_n (pc := 44) dX0_init_44 rfl (by rw [gYs_nL, hnL]; decide) rfl ?_
  have L : ∀ (j c : Nat) (U : gU) (σc : gM), c + j = 10 → U.1 = k + 6 + 4 * c → U.2.2 = Y.2.1.2.2 → (∀ x, (x < b ∨ b + 308 ≤ x) → U.2.1 x = Y.2.1.2.1 x ∧ σc x = σ x) → gRB b U.2.1 → gRE b c U.2.1 → AW (gYs Y U (5 + 4 * c) (57 + 24 * c)) cX0_init RX0 45 [some (.ref b), some (.int (Int32.ofNat c))] [] σc := by
    intro j
    induction j with
    | zero =>
      intro c U σc hc q1 q2 q3 q4 q5
      have hc2 : c = 10 := by omega
      subst hc2
      refine r_iload_n (pc := 45) dX0_init_45 rfl rfl ?_
      refine r_bipush (pc := 46) (v := 10) dX0_init_46 (by decide) ?_
      refine r_icmpC_ge (pc := 48) (tgt := 70) dX0_init_48 (by decide) (fun _ => ?_) (fun g => absurd (by decide) g)
      refine r_aload_n (pc := 70) dX0_init_70 rfl rfl ?_
      obtain ⟨o, ho, hof⟩ := hmk b σc
      have gi : ∀ {i a kd n : Nat}, gObs[k + i]? = some (a, kd, n) → i < 46 → gIn U a kd n := fun h hi => gIn_at h (by rw [q1]; omega)
      refine r_callV (kd := 0) (pc := 71) [] (tX0_makeNewC _ _ _ b (fun a ha => by subst ha; rw [gYs_u]; exact ⟨q4.2.1, gi h2 (by decide)⟩) (fun a ha => by subst ha; rw [gYs_u]; exact ⟨q4.2.2.1, gi h3 (by decide)⟩) (fun a ha => by subst ha; rw [gYs_u]; exact ⟨q4.2.2.2.1, gi h4 (by decide)⟩) _ _ ho (by rw [gYs_u]; exact gi (i := 0) h0 (by decide))) ⟨rfl, rfl⟩ cd_X0_makeNew wX0_32 nm_X0_makeNew rfl (by rw [gYs_Rm, hRm]; decide) rfl (Nat.le_of_ble_eq_true rfl) rfl (by decide) (by rw [gYs_u]; exact gi (i := 0) h0 (by decide)) dX0_init_71 ?_
      refine r_vretC (pc := 74) dX0_init_74 (gEndC_s he (by decide) (by decide)) ?_
      rw [gYs_u]
      exact ⟨by rw [q1, hu], q2, fun x hx => ⟨(q3 x hx).1, by rw [hof x hx]; exact (q3 x hx).2⟩, q4, q5, σc, ho⟩
    | succ j ih =>
      intro c U σc hc q1 q2 q3 q4 q5
      have hc10 : c < 10 := by omega
      obtain ⟨g0, g1, g2, g3⟩ := gBk_c b c hc10
      rw [← hB (6 + 4 * c) (by omega)] at g0
      rw [← hB (6 + 4 * c + 1) (by omega)] at g1
      rw [← hB (6 + 4 * c + 2) (by omega)] at g2
      rw [← hB (6 + 4 * c + 3) (by omega)] at g3
      have gi : ∀ {i a kd n : Nat} {U1 : gU}, gObs[k + i]? = some (a, kd, n) → i < 6 + 4 * c → U.1 ≤ U1.1 → gIn U1 a kd n := fun h hi hU => gIn_at h (by omega)
      refine r_iload_n (pc := 45) dX0_init_45 rfl rfl ?_
      refine r_bipush (pc := 46) (v := 10) dX0_init_46 (by decide) ?_
      refine r_icmpC_ge (pc := 48) (tgt := 70) dX0_init_48 (by decide) (fun g => absurd ((gGe (n := 10) (by omega) (by decide)).mp g) (by omega)) (fun _ => ?_)
      refine r_aload_n (pc := 51) dX0_init_51 rfl rfl ?_
      refine r_getR (pc := 52) (kd := 0) (j := 6) (C := RX0) (T := TX0) (N := 11) (b := b + 11) rfl (by decide) rfl (by decide) rfl inG0 kfX0_11 dX0_init_52 (by rw [gYs_u]; exact gi (i := 0) h0 (by omega) (Nat.le_refl _)) (by rw [gYs_u]; exact q4.1) ?_
      refine r_iload_n (pc := 55) dX0_init_55 rfl rfl ?_
      refine r_newO (pc := 56) (kd := 1) (T := TX1) (n0 := Y.2.1.1) (a := b + 68 + 24 * c) tyX1 rfl (by decide) rfl tyX1_ok (by decide +kernel) inG1 nwX0_9 dX0_init_56 (by rw [gYs_u, q1, show k + 6 + 4 * c = k + (6 + 4 * c) by omega]; exact g0) (gHz_s hz (by omega) (by omega)) (by rw [gYs_u, q1]; omega) (by rw [gYs_Cs, gYs_Rm, hRm]; simp only; omega) ?_
      simp only [gYs_s, gYs_u, gYs_Cs]
      refine r_dup (pc := 59) dX0_init_59 rfl ?_
      refine r_callIN (pc := 60) (n0 := Y.2.1.1) (tX1_init _ _ (by rw [gYs_G]; exact hpl) _ (b + 68 + 24 * c) (k + 6 + 4 * c) (by rw [gYs_u]; simp only [gNew] <;> omega) (by rw [show k + 6 + 4 * c = k + (6 + 4 * c) by omega]; exact g0) (by rw [show k + 6 + 4 * c + 1 = k + (6 + 4 * c + 1) by omega]; exact g1) (by rw [show k + 6 + 4 * c + 2 = k + (6 + 4 * c + 2) by omega]; exact g2) (by rw [show k + 6 + 4 * c + 3 = k + (6 + 4 * c + 3) by omega]; exact g3) _) ⟨rfl, rfl⟩ cd_X1_init ciX0_31 nm_X1_init rfl (by rw [gYs_Rm, hRm]; decide) (Nat.le_of_ble_eq_true rfl) (gHz_s hz (by simp only [gNew]; omega) (by simp only [gNew]; omega)) (gAOy_s hao) dX0_init_60 (by rw [gYs_Cs, gYs_Rm, hRm]; simp only; omega) (fun U1 σ1 hrel => ?_)
      obtain ⟨r1, r2, r3, r4⟩ := hrel
      simp only [gYs_s, gYs_u, gYs_Cs] at r2 r3 ⊢
      obtain ⟨hvi, hvc⟩ := gVin2 (c := c) (n := 10) hc10 (by decide)
      refine r_astR (pc := 63) (kd := 10) (ko := 1) (C := RX1) (T := TX1) (N := 11) (len := 10) (by decide) (by decide) rfl rfl (by decide) dX0_init_63 (by rw [gYs_u]; exact gi h1 (by omega) (by omega)) (by rw [gYs_u]; exact gIn_at g0 (by omega)) hvi ?_
      simp only [gYs_s, gYs_u, gYs_Cs, hvc]
      refine r_iinc (pc := 64) (d := 1) dX0_init_64 rfl (by decide) (by rw [gYs_nL, hnL]; decide) gIncE (fun y hy => ?_)
      have hy := gIncD hy
      subst hy
      refine r_goto (pc := 67) (tgt := 45) dX0_init_67 (by decide) ?_
      have K := ih (c + 1) (gPut U1 (b + 11 + c) (b + 68 + 24 * c)) σ1 (by omega) (by simp only [gPut] <;> omega) (by simp only [gPut]; rw [r2]; exact q2) (fun x hx => by
        have e1 := r3 x (by omega)
        have e2 := q3 x hx
        simp only [gPut]
        rw [if_neg (by omega)]
        refine ⟨by rw [e1.1]; simp only [gNew, gZt]; rw [if_neg (by omega)]; exact e2.1, by rw [e1.2]; simp only [gZ]; rw [if_neg (by omega)]; exact e2.2⟩) ?_ ?_
      · rw [gSuc]
        rw [show 5 + 4 * c + 1 + 3 = 5 + 4 * (c + 1) by omega, show 57 + 24 * c + 11 + 13 = 57 + 24 * (c + 1) by omega]
        exact r_mask [true, true] rfl K
      · have hk2 : ∀ x, x < b + 11 → (gPut U1 (b + 11 + c) (b + 68 + 24 * c)).2.1 x = U.2.1 x := fun x hx => by
          simp only [gPut]
          rw [if_neg (by omega), (r3 x (by omega)).1]
          simp only [gNew, gZt]
          rw [if_neg (by omega)]
        exact ⟨by rw [hk2 _ (by omega)]; exact q4.1, by rw [hk2 _ (by omega)]; exact q4.2.1, by rw [hk2 _ (by omega)]; exact q4.2.2.1, by rw [hk2 _ (by omega)]; exact q4.2.2.2.1, by rw [hk2 _ (by omega)]; exact q4.2.2.2.2⟩
      · intro i hi
        by_cases hic : i = c
        · subst hic
          refine ⟨by simp only [gPut]; rw [if_pos trivial], ?_, ?_, ?_⟩
          · simp only [gPut]; rw [if_neg (by omega)]; exact r4.1
          · simp only [gPut]; rw [if_neg (by omega)]; exact r4.2.1
          · simp only [gPut]; rw [if_neg (by omega)]; exact r4.2.2
        · have hlt2 : i < c := by omega
          have hk2 : ∀ x, (x < b + 11 + c ∨ (b + 68 ≤ x ∧ x < b + 68 + 24 * c)) → (gPut U1 (b + 11 + c) (b + 68 + 24 * c)).2.1 x = U.2.1 x := fun x hx => by
            simp only [gPut]
            rw [if_neg (by omega), (r3 x (by omega)).1]
            simp only [gNew, gZt]
            rw [if_neg (by omega)]
          have e1 := q5 i hlt2
          refine ⟨by rw [hk2 _ (by omega)]; exact e1.1, ?_, ?_, ?_⟩
          · rw [hk2 _ (by omega)]; exact e1.2.1
          · rw [hk2 _ (by omega)]; exact e1.2.2.1
          · rw [hk2 _ (by omega)]; exact e1.2.2.2
  refine r_mask [true, true] rfl (L 10 0 _ _ rfl ?_ ?_ (fun x hx => ?_) ⟨?_, ?_, ?_, ?_, ?_⟩ (fun i hi => absurd hi (by omega)))
  · simp only [gNew, gPut]; omega
  · rfl
  · simp only [gNew, gPut, gZt, gZ]
    refine ⟨?_, ?_⟩ <;> (repeat rw [if_neg (by omega)])
  all_goals (simp only [gNew, gPut, gZt]; (repeat (first | rw [if_pos (by first | trivial | omega)] | rw [if_neg (by omega)])))
def gMemRel (a k : Nat) (u : gU) (σ : gM) (u1 : gU) (σ1 : gM) : Prop := u1.1 = k + 646 ∧ u1.2.2 = u.2.2 ∧ (∀ x, (x < a ∨ (a + 4329) ≤ x) → u1.2.1 x = u.2.1 x) ∧ (∀ x, (x < (a + 3) ∨ (a + 4329) ≤ x) → σ1 x = σ x) ∧ u1.2.1 a = (a + 4) ∧ ∀ i, i < 14 → u1.2.1 ((a + 3) + i) = (a + 17) + 308 * i + 1 ∧ gRB ((a + 17) + 308 * i) u1.2.1 ∧ gRE ((a + 17) + 308 * i) 10 u1.2.1
abbrev rmX2_init : Room := { frames := 3, cells := 645, slots := 4326, locals := 82 }
set_option maxHeartbeats 4000000 in
set_option maxRecDepth 100000 in
theorem tX2_init (l : Launch) (G : gX) (hpl : gPl G) (hmk : gMkOk) (u : gU) (a k : Nat) (hu : u.1 = k + 1) (h0 : gObs[k]? = some (a, 2, 0)) (h1 : gObs[k + 1]? = some ((a + 3), 9, 14)) (hBs : ∀ c, c < 14 → gObsBk ((a + 17) + 308 * c) (k + 2 + 46 * c)) (σ : gM) : gMetC l G u (gMemRel a k u σ) yX2_init (.code yX2_init cX2_init 2 none) rmX2_init [.ref a] σ 645 4326 := by
  have hlt : k + 2 + 46 * 13 + 45 < 1670 := gObs_lt (show gObs[k + 2 + 46 * 13 + 45]? = some ((a + 17) + 308 * 13 + 305, 7, 3) from hBs 13 (by decide) 45 (by decide))
  refine gMetC_of hpl (by omega) (own := RX2) (k := 1) (by decide) rfl rfl (Nat.le_of_ble_eq_true rfl) [some (.ref a), none] rfl (fun Y hG hY hnL hLn hRm hCs hz hini hao he => ?_)
  subst hG hY hLn
  refine r_aload_n (pc := 0) dX2_init_0 rfl rfl ?_
  refine r_objI (pc := 1) ⟨oiX2, oiC⟩ (by rw [hRm]; decide) (Nat.le_of_ble_eq_true rfl) dX2_init_1 ?_
  refine r_aload_n (pc := 4) dX2_init_4 rfl rfl ?_
  refine r_bipush (pc := 5) (v := 14) dX2_init_5 (by decide) ?_
  refine r_newQ (pc := 7) (kd := 9) (a := (a + 3)) (len := 14) (by decide) (by decide) rfl (by decide) (by decide) (by decide) nwX2_9.1 (by first | exact hao | exact gAOy_s hao) (fun _ h => h.1) dX2_init_7 (by first | (rw [gYs_u]; simp only [gNew, gPut, hu]; exact h1) | (rw [hu]; exact h1)) (by first | exact hz | exact gHz_s hz (by simp only [gNew, gPut] <;> omega) (by simp only [gNew, gPut] <;> omega)) (by have := gObs_lt h1; first | (rw [gYs_u]; simp only [gNew, gPut, hu]; omega) | (rw [hu]; omega)) (by first | (rw [hCs, hRm]; decide) | (rw [gYs_Cs, gYs_Rm, hRm]; decide)) ?_
  simp only [gYs_s, gYs_u, gYs_Cs, hCs, Nat.zero_add, Nat.reduceAdd]
  refine r_putR (pc := 10) (kd := 2) (j := 0) (a := a) (b := (a + 3)) tyX2 tyX2_ok nmX2 rfl (by decide) rfl (by decide) rfl inG2 kfX2_11 rfl rfl (by decide +kernel : parseFieldDescriptor _ = some (tyX2 0)) (Or.inr ⟨_, rfl⟩) (by first | exact hini | exact gIni_s hini) dX2_init_10 (by first | (rw [gYs_u]; exact gIn_at h0 (by simp only [gNew, gPut, hu]; omega)) | exact gIn_at h0 (by rw [hu]; omega)) ?_
  simp only [gYs_s, gYs_u, gYs_Cs, hCs, Nat.zero_add, Nat.reduceAdd]
  refine r_iconst (pc := 13) (v := 0) dX2_init_13 (by decide) ?_
  refine r_istore_n (pc := 14) dX2_init_14 rfl (by rw [gYs_nL, hnL]; decide) rfl ?_
  have hEkeep : ∀ (b : Nat) (τ τ' : Nat → Nat), (∀ x, b ≤ x → x < b + 308 → τ' x = τ x) → gRB b τ → gRE b 10 τ → gRB b τ' ∧ gRE b 10 τ' := fun b τ τ' hk h1 h2 => by
    refine ⟨⟨by rw [hk _ (by omega) (by omega)]; exact h1.1, by rw [hk _ (by omega) (by omega)]; exact h1.2.1, by rw [hk _ (by omega) (by omega)]; exact h1.2.2.1, by rw [hk _ (by omega) (by omega)]; exact h1.2.2.2.1, by rw [hk _ (by omega) (by omega)]; exact h1.2.2.2.2⟩, fun i hi => ?_⟩
    have q := h2 i hi
    exact ⟨by rw [hk _ (by omega) (by omega)]; exact q.1, by rw [hk _ (by omega) (by omega)]; exact q.2.1, by rw [hk _ (by omega) (by omega)]; exact q.2.2.1, by rw [hk _ (by omega) (by omega)]; exact q.2.2.2⟩
  have L : ∀ (j c : Nat) (U : gU) (σc : gM), c + j = 14 → U.1 = (k + 2) + 46 * c → U.2.2 = Y.2.1.2.2 → (∀ x, (x < a ∨ (a + 4329) ≤ x) → U.2.1 x = Y.2.1.2.1 x) → (∀ x, (x < (a + 3) ∨ (a + 4329) ≤ x) → σc x = σ x) → U.2.1 a = (a + 4) → (∀ i, i < c → U.2.1 ((a + 3) + i) = (a + 17) + 308 * i + 1 ∧ gRB ((a + 17) + 308 * i) U.2.1 ∧ gRE ((a + 17) + 308 * i) 10 U.2.1) → AW (gYs Y U (1 + 46 * c) (14 + 308 * c)) cX2_init RX2 15 [some (.ref a), some (.int (Int32.ofNat c))] [] σc := by
    intro j
    induction j with
    | zero =>
      intro c U σc hc q1 q2 q3 q4 q5 q6
      have hc2 : c = 14 := by omega
      subst hc2
      refine r_iload_n (pc := 15) dX2_init_15 rfl rfl ?_
      refine r_bipush (pc := 16) (v := 14) dX2_init_16 (by decide) ?_
      refine r_icmpC_ge (pc := 18) (tgt := 40) dX2_init_18 (by decide) (fun _ => ?_) (fun g => absurd (by decide) g)
      refine r_vretC (pc := 40) dX2_init_40 (gEndC_s he (by decide) (by decide)) ?_
      rw [gYs_u]
      exact ⟨by rw [q1], q2, q3, q4, q5, q6⟩
    | succ j ih =>
      intro c U σc hc q1 q2 q3 q4 q5 q6
      have hcn : c < 14 := by omega
      have hB : gObsBk ((a + 17) + 308 * c) ((k + 2) + 46 * c) := hBs c hcn
      refine r_iload_n (pc := 15) dX2_init_15 rfl rfl ?_
      refine r_bipush (pc := 16) (v := 14) dX2_init_16 (by decide) ?_
      refine r_icmpC_ge (pc := 18) (tgt := 40) dX2_init_18 (by decide) (fun g => absurd ((gGe (n := 14) (by omega) (by decide)).mp g) (by omega)) (fun _ => ?_)
      refine r_aload_n (pc := 21) dX2_init_21 rfl rfl ?_
      refine r_getR (pc := 22) (kd := 2) (j := 0) (C := RX2) (T := TX2) (N := 3) (b := (a + 3)) rfl (by decide) rfl (by decide) rfl inG2 kfX2_11 dX2_init_22 (by rw [gYs_u]; exact gIn_at h0 (by omega)) (by rw [gYs_u]; exact q5) ?_
      refine r_iload_n (pc := 25) dX2_init_25 rfl rfl ?_
      refine r_newO (pc := 26) (kd := 0) (T := TX0) (n0 := Y.2.1.1) (a := (a + 17) + 308 * c) tyX0 rfl (by decide) rfl tyX0_ok (by decide +kernel) inG0 nwX2_9 dX2_init_26 (by rw [gYs_u, q1]; exact hB 0 (by decide)) (gHz_s hz (by omega) (by omega)) (by rw [gYs_u, q1]; omega) (by rw [gYs_Cs, gYs_Rm, hRm]; simp only; omega) ?_
      simp only [gYs_s, gYs_u, gYs_Cs]
      refine r_dup (pc := 29) dX2_init_29 rfl ?_
      refine r_callIN (pc := 30) (n0 := Y.2.1.1) (tX0_init _ _ (by rw [gYs_G]; exact hpl) hmk _ ((a + 17) + 308 * c) ((k + 2) + 46 * c) (by rw [gYs_u]; simp only [gNew] <;> omega) hB _) ⟨rfl, rfl⟩ cd_X0_init ciX2_17 nm_X0_init rfl (by rw [gYs_Rm, hRm]; decide) (Nat.le_of_ble_eq_true rfl) (gHz_s hz (by simp only [gNew]; omega) (by simp only [gNew]; omega)) (gAOy_s hao) dX2_init_30 (by rw [gYs_Cs, gYs_Rm, hRm]; simp only; omega) (fun U1 σ1 hrel => ?_)
      obtain ⟨r1, r2, r3, r4, r5, -⟩ := hrel
      simp only [gYs_s, gYs_u, gYs_Cs] at r1 r2 r3 ⊢
      simp only [gNew] at r1
      obtain ⟨hvi, hvc⟩ := gVin2 (c := c) (n := 14) hcn (by decide)
      refine r_astR (pc := 33) (kd := 9) (ko := 0) (C := RX0) (T := TX0) (N := 11) (len := 14) (by decide) (by decide) rfl rfl (by decide) dX2_init_33 (by rw [gYs_u]; exact gIn_at h1 (by omega)) (by rw [gYs_u]; exact gIn_at (hB 0 (by decide)) (by omega)) hvi ?_
      simp only [gYs_s, gYs_u, gYs_Cs, hvc]
      refine r_iinc (pc := 34) (d := 1) dX2_init_34 rfl (by decide) (by rw [gYs_nL, hnL]; decide) gIncE (fun y hy => ?_)
      have hy := gIncD hy
      subst hy
      refine r_goto (pc := 37) (tgt := 15) dX2_init_37 (by decide) ?_
      have hk2 : ∀ x, (x < (a + 17) + 308 * c ∨ (a + 17) + 308 * c + 308 ≤ x) → x ≠ (a + 3) + c → (gPut U1 ((a + 3) + c) ((a + 17) + 308 * c)).2.1 x = U.2.1 x := fun x hx hne => by
        simp only [gPut]
        rw [if_neg hne, (r3 x (by omega)).1]
        simp only [gNew, gZt]
        rw [if_neg (by omega)]
      have hk3 : ∀ x, (x < (a + 17) + 308 * c ∨ (a + 17) + 308 * c + 308 ≤ x) → σ1 x = σc x := fun x hx => by
        rw [(r3 x hx).2]
        simp only [gZ]
        rw [if_neg (by omega)]
      have hk4 : ∀ x, (a + 17) + 308 * c ≤ x → x < (a + 17) + 308 * c + 308 → (gPut U1 ((a + 3) + c) ((a + 17) + 308 * c)).2.1 x = U1.2.1 x := fun x hx hx2 => by
        simp only [gPut]
        rw [if_neg (by omega)]
      have hk5 : (gPut U1 ((a + 3) + c) ((a + 17) + 308 * c)).2.1 ((a + 3) + c) = (a + 17) + 308 * c + 1 := by
        simp only [gPut]
        rw [if_pos trivial]
      have K := ih (c + 1) (gPut U1 ((a + 3) + c) ((a + 17) + 308 * c)) σ1 (by omega) (by simp only [gPut] <;> omega) (by simp only [gPut]; rw [r2]; exact q2)
      have K2 := K (fun x hx => by rw [hk2 x (by omega) (by omega)]; exact q3 x hx) (fun x hx => by rw [hk3 x (by omega)]; exact q4 x hx) (by rw [hk2 a (by omega) (by omega)]; exact q5) (fun i hi => by
        by_cases hic : i = c
        · subst hic
          exact ⟨hk5, hEkeep _ U1.2.1 _ hk4 r4 r5⟩
        · have q := q6 i (by omega)
          exact ⟨by rw [hk2 _ (by omega) (by omega)]; exact q.1, hEkeep _ U.2.1 _ (fun x h1 h2 => hk2 x (by omega) (by omega)) q.2.1 q.2.2⟩)
      rw [gSuc]
      rw [show 1 + 46 * c + 1 + 45 = 1 + 46 * (c + 1) by omega, show 14 + 308 * c + 11 + 297 = 14 + 308 * (c + 1) by omega]
      exact r_mask [true, true] rfl (K2)
  refine r_mask [true, true] rfl (L 14 0 _ _ rfl ?_ rfl (fun x hx => ?_) (fun x hx => ?_) ?_ (fun i hi => absurd hi (by omega)))
  · simp only [gNew, gPut]; omega
  · simp only [gNew, gPut, gZt]; rw [if_neg (by omega), if_neg (by omega)]
  · simp only [gZ]; rw [if_neg (by omega)]
  · simp only [gNew, gPut]; exact if_pos rfl
theorem gObsBk_of {b k : Nat} (h : (gObs.drop k).take 46 = gBk b) : gObsBk b k := fun i hi => by
  rw [← h, List.getElem?_take, if_pos hi, List.getElem?_drop]
def gAtSys (a k : Nat) : Prop := gObs[k]? = some (a, 4, 0) ∧ gObs[k + 1]? = some (a + 6, 3, 0) ∧ gObs[k + 2]? = some (a + 8, 6, 120) ∧ gObs[k + 95]? = some (a + 744, 2, 0) ∧ gObs[k + 96]? = some (a + 747, 9, 14) ∧ gObs[k + 741]? = some (a + 5073, 9, 2) ∧ gObs[k + 742]? = some (a + 5075, 8, 2) ∧ gObsBk (a + 128) (k + 3) ∧ gObsBk (a + 436) (k + 49) ∧ (∀ c, c < 14 → gObsBk (a + 761 + 308 * c) (k + 97 + 46 * c)) ∧ ∀ c, c < 2 → gObsBk (a + 5077 + 308 * c) (k + 743 + 46 * c)
theorem gAt0 : gAtSys 0 0 := by
  have h1 : ∀ c, c < 14 → (gObs.drop (0 + 97 + 46 * c)).take 46 = gBk (0 + 761 + 308 * c) := by decide +kernel
  have h2 : ∀ c, c < 2 → (gObs.drop (0 + 743 + 46 * c)).take 46 = gBk (0 + 5077 + 308 * c) := by decide +kernel
  exact ⟨by decide +kernel, by decide +kernel, by decide +kernel, by decide +kernel, by decide +kernel, by decide +kernel, by decide +kernel, gObsBk_of (by decide +kernel), gObsBk_of (by decide +kernel), fun c hc => gObsBk_of (h1 c hc), fun c hc => gObsBk_of (h2 c hc)⟩
theorem gAt1 : gAtSys 5693 835 := by
  have h1 : ∀ c, c < 14 → (gObs.drop (835 + 97 + 46 * c)).take 46 = gBk (5693 + 761 + 308 * c) := by decide +kernel
  have h2 : ∀ c, c < 2 → (gObs.drop (835 + 743 + 46 * c)).take 46 = gBk (5693 + 5077 + 308 * c) := by decide +kernel
  exact ⟨by decide +kernel, by decide +kernel, by decide +kernel, by decide +kernel, by decide +kernel, by decide +kernel, by decide +kernel, gObsBk_of (by decide +kernel), gObsBk_of (by decide +kernel), fun c hc => gObsBk_of (h1 c hc), fun c hc => gObsBk_of (h2 c hc)⟩
def gXsRel (a k : Nat) (u : gU) (σ : gM) (u1 : gU) (σ1 : gM) : Prop := u1.1 = k + 835 ∧ u1.2.2 = u.2.2 ∧ (∀ x, (x < a ∨ (a + 5693) ≤ x) → u1.2.1 x = u.2.1 x ∧ σ1 x = σ x) ∧ (u1.2.1 a = a + 7 ∧ u1.2.1 (a + 1) = (a + 129) ∧ u1.2.1 (a + 2) = (a + 437) ∧ u1.2.1 (a + 3) = (a + 745) ∧ u1.2.1 (a + 4) = (a + 5074) ∧ u1.2.1 (a + 5) = (a + 5076) ∧ u1.2.1 (a + 6) = a + 9 ∧ u1.2.1 (a + 744) = (a + 748)) ∧ (gRB (a + 128) u1.2.1 ∧ gRE (a + 128) 10 u1.2.1 ∧ gRB (a + 436) u1.2.1 ∧ gRE (a + 436) 10 u1.2.1) ∧ (∀ i, i < 14 → u1.2.1 ((a + 747) + i) = (a + 761) + 308 * i + 1 ∧ gRB ((a + 761) + 308 * i) u1.2.1 ∧ gRE ((a + 761) + 308 * i) 10 u1.2.1) ∧ (∀ i, i < 2 → u1.2.1 ((a + 5073) + i) = (a + 5077) + 308 * i + 1 ∧ gRB ((a + 5077) + 308 * i) u1.2.1 ∧ gRE ((a + 5077) + 308 * i) 10 u1.2.1) ∧ (σ1 (a + 7) = 0 ∧ σ1 (a + 745) = 0 ∧ σ1 (a + 746) = 0 ∧ σ1 (a + 5075) = 0 ∧ σ1 (a + 5076) = 0) ∧ ∃ σ' σ2 : gM, fX0_makeNew (a + 128) σ' = some σ2 ∧ ∀ x, (a + 128) ≤ x → x < (a + 436) → σ1 x = σ2 x
abbrev rmX5_init : Room := { frames := 4, cells := 834, slots := 5687, locals := 103 }
set_option maxHeartbeats 8000000 in
set_option maxRecDepth 100000 in
theorem tX5_init (l : Launch) (G : gX) (hpl : gPl G) (hmk : gMkOk) (u : gU) (a k : Nat) (hu : u.1 = k + 1) (hA : gAtSys a k) (σ : gM) : gMetC l G u (gXsRel a k u σ) yX5_init (.code yX5_init cX5_init 2 none) rmX5_init [.ref a] σ 834 5687 := by
  obtain ⟨h0, ht, ht2, hm, hm1, hs, hi2, hB1, hB2, hBs, hB3⟩ := hA
  have hb : gObs[k + 3]? = some (a + 128, 0, 0) := hB1 0 (by decide)
  have hc : gObs[k + 49]? = some (a + 436, 0, 0) := hB2 0 (by decide)
  have hlt : k + 743 + 46 * 1 + 45 < 1670 := gObs_lt (show gObs[k + 743 + 46 * 1 + 45]? = some (a + 5077 + 308 * 1 + 305, 7, 3) from hB3 1 (by decide) 45 (by decide))
  refine gMetC_of hpl (by omega) (own := RX5) (k := 1) (by decide) rfl rfl (Nat.le_of_ble_eq_true rfl) [some (.ref a), none] rfl (fun Y hG hY hnL hLn hRm hCs hz hini hao he => ?_)
  subst hG hY hLn
  refine r_aload_n (pc := 0) dX5_init_0 rfl rfl ?_
  refine r_objI (pc := 1) ⟨oiX5, oiC⟩ (by rw [hRm]; decide) (Nat.le_of_ble_eq_true rfl) dX5_init_1 ?_
  refine r_aload_n (pc := 4) dX5_init_4 rfl rfl ?_
  refine r_newO (pc := 5) (kd := 3) (T := TX4) (n0 := Y.2.1.1) (a := (a + 6)) tyX4 rfl (by decide) rfl tyX4_ok (by decide +kernel) inG3 nwX5_7 dX5_init_5 (by rw [hu]; exact ht) (hz) (by rw [hu]; omega) (by rw [hCs, hRm]; decide) ?_
  simp only [gYs_s, gYs_u, gYs_Cs, hCs, Nat.zero_add, Nat.reduceAdd]
  refine r_dup (pc := 8) dX5_init_8 rfl ?_
  refine r_callIN (pc := 9) (n0 := Y.2.1.1) (tX4_init _ _ (by rw [gYs_G]; exact hpl) _ (a + 6) (k + 1) (by rw [gYs_u]; simp only [gNew] <;> omega) ht ht2 _) ⟨rfl, rfl⟩ cd_X4_init ciX5_9 nm_X4_init rfl (by rw [gYs_Rm, hRm]; decide) (Nat.le_of_ble_eq_true rfl) (gHz_s hz (by simp only [gNew, gPut] <;> omega) (by simp only [gNew, gPut] <;> omega)) (gAOy_s hao) dX5_init_9 (by rw [gYs_Cs, gYs_Rm, hRm]; decide) (fun U1 σ1 hrel1 => ?_)
  obtain ⟨a1, a2, a3, a4, a5⟩ := hrel1
  simp only [gYs_s, gYs_u, gYs_Cs, hCs, Nat.zero_add, Nat.reduceAdd] at a2 a3 ⊢
  refine r_putR (pc := 12) (kd := 4) (j := 0) (a := a) (b := (a + 6)) tyX5 tyX5_ok nmX5 rfl (by decide) rfl (by decide) rfl inG4 kfX5_10 rfl rfl (by decide +kernel : parseFieldDescriptor _ = some (tyX5 0)) (Or.inl ⟨_, rfl⟩) (gIni_s hini) dX5_init_12 (by rw [gYs_u]; exact gIn_at h0 (by first | omega | (simp only [gNew, gPut] <;> omega))) ?_
  simp only [gYs_s, gYs_u, gYs_Cs]
  refine r_aload_n (pc := 15) dX5_init_15 rfl rfl ?_
  refine r_newO (pc := 16) (kd := 0) (T := TX0) (n0 := Y.2.1.1) (a := (a + 128)) tyX0 rfl (by decide) rfl tyX0_ok (by decide +kernel) inG0 nwX5_16 dX5_init_16 (by rw [gYs_u]; simp only [gPut]; rw [a1]; exact hb) (gHz_s hz (by simp only [gPut] <;> omega) (by simp only [gPut] <;> omega)) (by rw [gYs_u]; simp only [gPut]; omega) (by rw [gYs_Cs, gYs_Rm, hRm]; decide) ?_
  simp only [gYs_s, gYs_u, gYs_Cs, hCs, Nat.zero_add, Nat.reduceAdd]
  refine r_dup (pc := 19) dX5_init_19 rfl ?_
  refine r_callIN (pc := 20) (n0 := Y.2.1.1) (tX0_init _ _ (by rw [gYs_G]; exact hpl) hmk _ (a + 128) (k + 3) (by rw [gYs_u]; simp only [gNew, gPut] <;> omega) hB1 _) ⟨rfl, rfl⟩ cd_X0_init ciX5_18 nm_X0_init rfl (by rw [gYs_Rm, hRm]; decide) (Nat.le_of_ble_eq_true rfl) (gHz_s hz (by simp only [gNew, gPut] <;> omega) (by simp only [gNew, gPut] <;> omega)) (gAOy_s hao) dX5_init_20 (by rw [gYs_Cs, gYs_Rm, hRm]; decide) (fun U2 σ2 hrel2 => ?_)
  obtain ⟨b1, b2, b3, b4, b5, σm, b6⟩ := hrel2
  simp only [gYs_s, gYs_u, gYs_Cs, hCs, Nat.zero_add, Nat.reduceAdd] at b1 b2 b3 ⊢
  have b1 : U2.1 = k + 49 := by rw [b1]; simp only [gNew, gPut]; omega
  refine r_putR (pc := 23) (kd := 4) (j := 1) (a := a) (b := (a + 128)) tyX5 tyX5_ok nmX5 rfl (by decide) rfl (by decide) rfl inG4 kfX5_19 rfl rfl (by decide +kernel : parseFieldDescriptor _ = some (tyX5 1)) (Or.inl ⟨_, rfl⟩) (gIni_s hini) dX5_init_23 (by rw [gYs_u]; exact gIn_at h0 (by first | omega | (simp only [gNew, gPut] <;> omega))) ?_
  simp only [gYs_s, gYs_u, gYs_Cs]
  refine r_aload_n (pc := 26) dX5_init_26 rfl rfl ?_
  refine r_newO (pc := 27) (kd := 0) (T := TX0) (n0 := Y.2.1.1) (a := (a + 436)) tyX0 rfl (by decide) rfl tyX0_ok (by decide +kernel) inG0 nwX5_16 dX5_init_27 (by rw [gYs_u]; simp only [gPut]; rw [b1]; exact hc) (gHz_s hz (by simp only [gPut] <;> omega) (by simp only [gPut] <;> omega)) (by rw [gYs_u]; simp only [gPut]; omega) (by rw [gYs_Cs, gYs_Rm, hRm]; decide) ?_
  simp only [gYs_s, gYs_u, gYs_Cs, hCs, Nat.zero_add, Nat.reduceAdd]
  refine r_dup (pc := 30) dX5_init_30 rfl ?_
  refine r_callIN (pc := 31) (n0 := Y.2.1.1) (tX0_init _ _ (by rw [gYs_G]; exact hpl) hmk _ (a + 436) (k + 49) (by rw [gYs_u]; simp only [gNew, gPut] <;> omega) hB2 _) ⟨rfl, rfl⟩ cd_X0_init ciX5_18 nm_X0_init rfl (by rw [gYs_Rm, hRm]; decide) (Nat.le_of_ble_eq_true rfl) (gHz_s hz (by simp only [gNew, gPut] <;> omega) (by simp only [gNew, gPut] <;> omega)) (gAOy_s hao) dX5_init_31 (by rw [gYs_Cs, gYs_Rm, hRm]; decide) (fun U3 σ3 hrel3 => ?_)
  obtain ⟨c1, c2, c3, c4, c5, -⟩ := hrel3
  simp only [gYs_s, gYs_u, gYs_Cs, hCs, Nat.zero_add, Nat.reduceAdd] at c1 c2 c3 ⊢
  have c1 : U3.1 = k + 95 := by rw [c1]; simp only [gNew, gPut]; omega
  refine r_putR (pc := 34) (kd := 4) (j := 2) (a := a) (b := (a + 436)) tyX5 tyX5_ok nmX5 rfl (by decide) rfl (by decide) rfl inG4 kfX5_23 rfl rfl (by decide +kernel : parseFieldDescriptor _ = some (tyX5 2)) (Or.inl ⟨_, rfl⟩) (gIni_s hini) dX5_init_34 (by rw [gYs_u]; exact gIn_at h0 (by first | omega | (simp only [gNew, gPut] <;> omega))) ?_
  simp only [gYs_s, gYs_u, gYs_Cs]
  refine r_aload_n (pc := 37) dX5_init_37 rfl rfl ?_
  refine r_newO (pc := 38) (kd := 2) (T := TX2) (n0 := Y.2.1.1) (a := (a + 744)) tyX2 rfl (by decide) rfl tyX2_ok (by decide +kernel) inG2 nwX5_26 dX5_init_38 (by rw [gYs_u]; simp only [gPut]; rw [c1]; exact hm) (gHz_s hz (by simp only [gPut] <;> omega) (by simp only [gPut] <;> omega)) (by rw [gYs_u]; simp only [gPut]; omega) (by rw [gYs_Cs, gYs_Rm, hRm]; decide) ?_
  simp only [gYs_s, gYs_u, gYs_Cs, hCs, Nat.zero_add, Nat.reduceAdd]
  refine r_dup (pc := 41) dX5_init_41 rfl ?_
  refine r_callIN (pc := 42) (n0 := Y.2.1.1) (tX2_init _ _ (by rw [gYs_G]; exact hpl) hmk _ (a + 744) (k + 95) (by rw [gYs_u]; simp only [gNew, gPut] <;> omega) hm hm1 (fun c hc => hBs c hc) _) ⟨rfl, rfl⟩ cd_X2_init ciX5_28 nm_X2_init rfl (by rw [gYs_Rm, hRm]; decide) (Nat.le_of_ble_eq_true rfl) (gHz_s hz (by simp only [gNew, gPut] <;> omega) (by simp only [gNew, gPut] <;> omega)) (gAOy_s hao) dX5_init_42 (by rw [gYs_Cs, gYs_Rm, hRm]; decide) (fun U4 σ4 hrel4 => ?_)
  obtain ⟨d1, d2, d3, d4, d5, d6⟩ := hrel4
  simp only [gYs_s, gYs_u, gYs_Cs, hCs, Nat.zero_add, Nat.reduceAdd] at d2 d3 d4 ⊢
  refine r_putR (pc := 45) (kd := 4) (j := 3) (a := a) (b := (a + 744)) tyX5 tyX5_ok nmX5 rfl (by decide) rfl (by decide) rfl inG4 kfX5_29 rfl rfl (by decide +kernel : parseFieldDescriptor _ = some (tyX5 3)) (Or.inl ⟨_, rfl⟩) (gIni_s hini) dX5_init_45 (by rw [gYs_u]; exact gIn_at h0 (by first | omega | (simp only [gNew, gPut] <;> omega))) ?_
  simp only [gYs_s, gYs_u, gYs_Cs]
  refine r_aload_n (pc := 48) dX5_init_48 rfl rfl ?_
  refine r_iconst (pc := 49) (v := 2) dX5_init_49 (by decide) ?_
  refine r_newQ (pc := 50) (n0 := Y.2.1.1) (kd := 9) (a := (a + 5073)) (len := 2) (by decide) (by decide) rfl (by decide) (by decide) (by decide) nwX5_16.1 (gAOy_s hao) (fun _ h => h.1) dX5_init_50 (by rw [gYs_u]; simp only [gPut]; rw [d1]; exact hs) (gHz_s hz (by simp only [gPut] <;> omega) (by simp only [gPut] <;> omega)) (by rw [gYs_u]; simp only [gPut]; omega) (by rw [gYs_Cs, gYs_Rm, hRm]; decide) ?_
  simp only [gYs_s, gYs_u, gYs_Cs]
  refine r_putR (pc := 53) (kd := 4) (j := 4) (a := a) (b := (a + 5073)) tyX5 tyX5_ok nmX5 rfl (by decide) rfl (by decide) rfl inG4 kfX5_33 rfl rfl (by decide +kernel : parseFieldDescriptor _ = some (tyX5 4)) (Or.inr ⟨_, rfl⟩) (gIni_s hini) dX5_init_53 (by rw [gYs_u]; exact gIn_at h0 (by first | omega | (simp only [gNew, gPut] <;> omega))) ?_
  simp only [gYs_s, gYs_u, gYs_Cs]
  refine r_aload_n (pc := 56) dX5_init_56 rfl rfl ?_
  refine r_iconst (pc := 57) (v := 2) dX5_init_57 (by decide) ?_
  refine r_newI (pc := 58) (n0 := Y.2.1.1) (kd := 8) (a := (a + 5075)) (len := 2) (by decide) (by decide) rfl (by intro z; simp [gTi]) rfl (by decide) (by decide) (by decide) ac_boolean dX5_init_58 (by rw [gYs_u]; simp only [gPut, gNew]; rw [d1]; exact hi2) (gHz_s hz (by simp only [gPut, gNew] <;> omega) (by simp only [gPut, gNew] <;> omega)) (by rw [gYs_u]; simp only [gPut, gNew]; omega) (by rw [gYs_Cs, gYs_Rm, hRm]; decide) ?_
  simp only [gYs_s, gYs_u, gYs_Cs]
  refine r_putR (pc := 60) (kd := 4) (j := 5) (a := a) (b := (a + 5075)) tyX5 tyX5_ok nmX5 rfl (by decide) rfl (by decide) rfl inG4 kfX5_37 rfl rfl (by decide +kernel : parseFieldDescriptor _ = some (tyX5 5)) (Or.inr ⟨_, rfl⟩) (gIni_s hini) dX5_init_60 (by rw [gYs_u]; exact gIn_at h0 (by first | omega | (simp only [gNew, gPut] <;> omega))) ?_
  simp only [gYs_s, gYs_u, gYs_Cs]
  refine r_iconst (pc := 63) (v := 0) dX5_init_63 (by decide) ?_
  refine r_istore_n (pc := 64) dX5_init_64 rfl (by rw [gYs_nL, hnL]; decide) rfl ?_
  simp only [Nat.reduceAdd]
  obtain ⟨V, hV⟩ : ∃ V : gU, V = gPut (gNew (gPut (gNew (gPut U4 (a + 3) (a + 744)) (a + 5073) 2) (a + 4) (a + 5073)) (a + 5075) 2) (a + 5) (a + 5075) := ⟨_, rfl⟩
  obtain ⟨τ, hτ⟩ : ∃ τ : gM, τ = gZ (a + 5075) 2 (gZ (a + 5073) 2 σ4) := ⟨_, rfl⟩
  rw [← hV, ← hτ]
  have v1 : V.1 = k + 743 := by rw [hV]; simp only [gNew, gPut]; omega
  have v2 : V.2.2 = Y.2.1.2.2 := by rw [hV]; simp only [gNew, gPut]; rw [d2]; simp only [gNew, gPut]; rw [c2]; simp only [gNew, gPut]; rw [b2]; simp only [gNew, gPut]; rw [a2]; rfl
  have vk4 : ∀ x, a + 6 ≤ x → x < (a + 5073) → V.2.1 x = U4.2.1 x := fun x h1 h2 => by rw [hV]; simp only [gNew, gPut, gZt]; (repeat rw [if_neg (by omega)])
  have vk3 : ∀ x, a + 6 ≤ x → x < (a + 744) → V.2.1 x = U3.2.1 x := fun x h1 h2 => by rw [vk4 x h1 (by omega), d3 x (Or.inl h2)]; simp only [gNew, gPut, gZt]; (repeat rw [if_neg (by omega)])
  have vk2 : ∀ x, a + 6 ≤ x → x < (a + 436) → V.2.1 x = U2.2.1 x := fun x h1 h2 => by rw [vk3 x h1 (by omega), (c3 x (Or.inl h2)).1]; simp only [gNew, gPut, gZt]; (repeat rw [if_neg (by omega)])
  have vk1 : ∀ x, a + 6 ≤ x → x < (a + 128) → V.2.1 x = U1.2.1 x := fun x h1 h2 => by rw [vk2 x h1 (by omega), (b3 x (Or.inl h2)).1]; simp only [gNew, gPut, gZt]; (repeat rw [if_neg (by omega)])
  have w4 : ∀ x, x < (a + 5073) → τ x = σ4 x := fun x h1 => by rw [hτ]; simp only [gZ]; (repeat rw [if_neg (by omega)])
  have w3 : ∀ x, x < (a + 744) → τ x = σ3 x := fun x h1 => by rw [w4 x (by omega), d4 x (Or.inl (by omega))]; simp only [gZ]; (repeat rw [if_neg (by omega)])
  have w2 : ∀ x, x < (a + 436) → τ x = σ2 x := fun x h1 => by rw [w3 x (by omega), (c3 x (Or.inl h1)).2]; simp only [gZ]; (repeat rw [if_neg (by omega)])
  have w1 : ∀ x, x < (a + 128) → τ x = σ1 x := fun x h1 => by rw [w2 x (by omega), (b3 x (Or.inl h1)).2]; simp only [gZ]; (repeat rw [if_neg (by omega)])
  have z0 : V.2.1 a = a + 7 ∧ V.2.1 (a + 1) = (a + 129) ∧ V.2.1 (a + 2) = (a + 437) ∧ V.2.1 (a + 3) = (a + 745) ∧ V.2.1 (a + 4) = (a + 5074) ∧ V.2.1 (a + 5) = (a + 5076) := by
    have e4 : ∀ x, x < a + 3 → V.2.1 x = U4.2.1 x := fun x h1 => by rw [hV]; simp only [gNew, gPut, gZt]; (repeat rw [if_neg (by omega)])
    have e3 : ∀ x, x < a + 3 → V.2.1 x = (gPut U3 (a + 2) (a + 436)).2.1 x := fun x h1 => by rw [e4 x h1, d3 x (Or.inl (by omega))]; simp only [gNew, gZt]; rw [if_neg (by omega)]
    have e2 : ∀ x, x < a + 2 → V.2.1 x = (gPut U2 (a + 1) (a + 128)).2.1 x := fun x h1 => by rw [e3 x (by omega)]; simp only [gPut]; rw [if_neg (by omega), (c3 x (Or.inl (by omega))).1]; simp only [gNew, gZt, gPut]; rw [if_neg (by omega)]
    have e1 : ∀ x, x < a + 1 → V.2.1 x = (gPut U1 (a + 0) (a + 6)).2.1 x := fun x h1 => by rw [e2 x (by omega)]; simp only [gPut]; rw [if_neg (by omega), (b3 x (Or.inl (by omega))).1]; simp only [gNew, gZt, gPut]; rw [if_neg (by omega)]
    refine ⟨?_, ?_, ?_, ?_, ?_, ?_⟩
    · rw [e1 a (by omega)]; simp only [gNew, gPut, gZt]; (repeat (first | rw [if_pos (by first | trivial | omega)] | rw [if_neg (by omega)]))
    · rw [e2 (a + 1) (by omega)]; simp only [gNew, gPut, gZt]; (repeat (first | rw [if_pos (by first | trivial | omega)] | rw [if_neg (by omega)]))
    · rw [e3 (a + 2) (by omega)]; simp only [gNew, gPut, gZt]; (repeat (first | rw [if_pos (by first | trivial | omega)] | rw [if_neg (by omega)]))
    · rw [hV]; simp only [gNew, gPut, gZt]; (repeat (first | rw [if_pos (by first | trivial | omega)] | rw [if_neg (by omega)]))
    · rw [hV]; simp only [gNew, gPut, gZt]; (repeat (first | rw [if_pos (by first | trivial | omega)] | rw [if_neg (by omega)]))
    · rw [hV]; simp only [gNew, gPut, gZt]; (repeat (first | rw [if_pos (by first | trivial | omega)] | rw [if_neg (by omega)]))
  have z5 : τ (a + 5075) = 0 ∧ τ (a + 5076) = 0 := by rw [hτ]; simp only [gZ]; exact ⟨by rw [if_pos (by omega)], by rw [if_pos (by omega)]⟩
  have vhi : ∀ x, (x < a ∨ (a + 5693) ≤ x) → V.2.1 x = Y.2.1.2.1 x ∧ τ x = σ x := fun x hx => by
    rw [hV, hτ]
    simp only [gNew, gPut, gZt, gZ]
    (repeat rw [if_neg (by omega)])
    rw [d3 x (by omega), d4 x (by omega)]
    simp only [gNew, gPut, gZt, gZ]
    (repeat rw [if_neg (by omega)])
    rw [(c3 x (by omega)).1, (c3 x (by omega)).2]
    simp only [gNew, gPut, gZt, gZ]
    (repeat rw [if_neg (by omega)])
    rw [(b3 x (by omega)).1, (b3 x (by omega)).2]
    simp only [gNew, gPut, gZt, gZ]
    (repeat rw [if_neg (by omega)])
    rw [(a3 x (by omega)).1, (a3 x (by omega)).2]
    simp only [gNew, gPut, gZt, gZ]
    (repeat rw [if_neg (by omega)])
    exact ⟨rfl, rfl⟩
  have zt : τ (a + 7) = 0 := by
    rw [w1 (a + 7) (by omega), show a + 7 = a + 6 + 1 from rfl, a5]
    simp only [gZ]
    rw [if_pos (by omega)]
  have zm : τ (a + 745) = 0 ∧ τ (a + 746) = 0 := by
    rw [w4 (a + 745) (by omega), w4 (a + 746) (by omega), d4 (a + 745) (Or.inl (by omega)), d4 (a + 746) (Or.inl (by omega))]
    simp only [gZ]
    exact ⟨by rw [if_pos (by omega)], by rw [if_pos (by omega)]⟩

  have hEkeep : ∀ (b : Nat) (τ τ' : Nat → Nat), (∀ x, b ≤ x → x < b + 308 → τ' x = τ x) → gRB b τ → gRE b 10 τ → gRB b τ' ∧ gRE b 10 τ' := fun b τ τ' hk h1 h2 => by
    refine ⟨⟨by rw [hk _ (by omega) (by omega)]; exact h1.1, by rw [hk _ (by omega) (by omega)]; exact h1.2.1, by rw [hk _ (by omega) (by omega)]; exact h1.2.2.1, by rw [hk _ (by omega) (by omega)]; exact h1.2.2.2.1, by rw [hk _ (by omega) (by omega)]; exact h1.2.2.2.2⟩, fun i hi => ?_⟩
    have q := h2 i hi
    exact ⟨by rw [hk _ (by omega) (by omega)]; exact q.1, by rw [hk _ (by omega) (by omega)]; exact q.2.1, by rw [hk _ (by omega) (by omega)]; exact q.2.2.1, by rw [hk _ (by omega) (by omega)]; exact q.2.2.2⟩
  have L : ∀ (j c : Nat) (U : gU) (σc : gM), c + j = 2 → U.1 = (k + 743) + 46 * c → U.2.2 = Y.2.1.2.2 → (∀ x, (x < (a + 5073) ∨ (a + 5693) ≤ x) → U.2.1 x = V.2.1 x) → (∀ x, (x < (a + 5077) ∨ (a + 5693) ≤ x) → σc x = τ x) → (∀ i, i < c → U.2.1 ((a + 5073) + i) = (a + 5077) + 308 * i + 1 ∧ gRB ((a + 5077) + 308 * i) U.2.1 ∧ gRE ((a + 5077) + 308 * i) 10 U.2.1) → AW (gYs Y U (742 + 46 * c) (5071 + 308 * c)) cX5_init RX5 65 [some (.ref a), some (.int (Int32.ofNat c))] [] σc := by
    intro j
    induction j with
    | zero =>
      intro c U σc hc q1 q2 q3 q4 q6
      have hc2 : c = 2 := by omega
      subst hc2
      refine r_iload_n (pc := 65) dX5_init_65 rfl rfl ?_
      refine r_iconst (pc := 66) (v := 2) dX5_init_66 (by decide) ?_
      refine r_icmpC_ge (pc := 67) (tgt := 89) dX5_init_67 (by decide) (fun _ => ?_) (fun g => absurd (by decide) g)
      refine r_vretC (pc := 89) dX5_init_89 (gEndC_s he (by decide) (by decide)) ?_
      rw [gYs_u]
      have hb := hEkeep (a + 128) U2.2.1 U.2.1 (fun x h1 h2 => by rw [q3 x (Or.inl (by omega)), vk2 x (by omega) (by omega)]) b4 b5
      have hc9 := hEkeep (a + 436) U3.2.1 U.2.1 (fun x h1 h2 => by rw [q3 x (Or.inl (by omega)), vk3 x (by omega) (by omega)]) c4 c5
      refine ⟨by rw [q1], q2, fun x hx => ?_, ⟨?_, ?_, ?_, ?_, ?_, ?_, ?_, ?_⟩, ⟨hb.1, hb.2, hc9.1, hc9.2⟩, fun i hi => ?_, q6, ⟨?_, ?_, ?_, ?_, ?_⟩, σm, σ2, b6, fun x h1 h2 => ?_⟩
      · rw [q3 x (by omega), q4 x (by omega)]
        exact vhi x hx
      · rw [q3 a (by omega)]; exact z0.1
      · rw [q3 (a + 1) (by omega)]; exact z0.2.1
      · rw [q3 (a + 2) (by omega)]; exact z0.2.2.1
      · rw [q3 (a + 3) (by omega)]; exact z0.2.2.2.1
      · rw [q3 (a + 4) (by omega)]; exact z0.2.2.2.2.1
      · rw [q3 (a + 5) (by omega)]; exact z0.2.2.2.2.2
      · rw [q3 (a + 6) (by omega), vk1 (a + 6) (by omega) (by omega)]; exact a4
      · rw [q3 (a + 744) (by omega), vk4 (a + 744) (by omega) (by omega)]; exact d5
      · have q := d6 i hi
        exact ⟨by rw [q3 _ (by omega), vk4 _ (by omega) (by omega)]; exact q.1, hEkeep _ U4.2.1 _ (fun x h1 h2 => by rw [q3 _ (by omega), vk4 _ (by omega) (by omega)]) q.2.1 q.2.2⟩
      · rw [q4 (a + 7) (by omega)]; exact zt
      · rw [q4 (a + 745) (by omega)]; exact zm.1
      · rw [q4 (a + 746) (by omega)]; exact zm.2
      · rw [q4 (a + 5075) (by omega)]; exact z5.1
      · rw [q4 (a + 5076) (by omega)]; exact z5.2
      · rw [q4 x (by omega), w2 x (by omega)]
    | succ j ih =>
      intro c U σc hc q1 q2 q3 q4 q6
      have hcn : c < 2 := by omega
      have hB : gObsBk ((a + 5077) + 308 * c) ((k + 743) + 46 * c) := hB3 c hcn
      refine r_iload_n (pc := 65) dX5_init_65 rfl rfl ?_
      refine r_iconst (pc := 66) (v := 2) dX5_init_66 (by decide) ?_
      refine r_icmpC_ge (pc := 67) (tgt := 89) dX5_init_67 (by decide) (fun g => absurd ((gGe (n := 2) (by omega) (by decide)).mp g) (by omega)) (fun _ => ?_)
      refine r_aload_n (pc := 70) dX5_init_70 rfl rfl ?_
      refine r_getR (pc := 71) (kd := 4) (j := 4) (C := RX5) (T := TX5) (N := 6) (b := (a + 5073)) rfl (by decide) rfl (by decide) rfl inG4 kfX5_33 dX5_init_71 (by rw [gYs_u]; exact gIn_at h0 (by omega)) (by rw [gYs_u]; rw [q3 (a + 4) (by omega)]; exact z0.2.2.2.2.1) ?_
      refine r_iload_n (pc := 74) dX5_init_74 rfl rfl ?_
      refine r_newO (pc := 75) (kd := 0) (T := TX0) (n0 := Y.2.1.1) (a := (a + 5077) + 308 * c) tyX0 rfl (by decide) rfl tyX0_ok (by decide +kernel) inG0 nwX5_16 dX5_init_75 (by rw [gYs_u, q1]; exact hB 0 (by decide)) (gHz_s hz (by omega) (by omega)) (by rw [gYs_u, q1]; omega) (by rw [gYs_Cs, gYs_Rm, hRm]; simp only; omega) ?_
      simp only [gYs_s, gYs_u, gYs_Cs]
      refine r_dup (pc := 78) dX5_init_78 rfl ?_
      refine r_callIN (pc := 79) (n0 := Y.2.1.1) (tX0_init _ _ (by rw [gYs_G]; exact hpl) hmk _ ((a + 5077) + 308 * c) ((k + 743) + 46 * c) (by rw [gYs_u]; simp only [gNew] <;> omega) hB _) ⟨rfl, rfl⟩ cd_X0_init ciX5_18 nm_X0_init rfl (by rw [gYs_Rm, hRm]; decide) (Nat.le_of_ble_eq_true rfl) (gHz_s hz (by simp only [gNew]; omega) (by simp only [gNew]; omega)) (gAOy_s hao) dX5_init_79 (by rw [gYs_Cs, gYs_Rm, hRm]; simp only; omega) (fun U1 σ1 hrel => ?_)
      obtain ⟨r1, r2, r3, r4, r5, -⟩ := hrel
      simp only [gYs_s, gYs_u, gYs_Cs] at r1 r2 r3 ⊢
      simp only [gNew] at r1
      obtain ⟨hvi, hvc⟩ := gVin2 (c := c) (n := 2) hcn (by decide)
      refine r_astR (pc := 82) (kd := 9) (ko := 0) (C := RX0) (T := TX0) (N := 11) (len := 2) (by decide) (by decide) rfl rfl (by decide) dX5_init_82 (by rw [gYs_u]; exact gIn_at hs (by omega)) (by rw [gYs_u]; exact gIn_at (hB 0 (by decide)) (by omega)) hvi ?_
      simp only [gYs_s, gYs_u, gYs_Cs, hvc]
      refine r_iinc (pc := 83) (d := 1) dX5_init_83 rfl (by decide) (by rw [gYs_nL, hnL]; decide) gIncE (fun y hy => ?_)
      have hy := gIncD hy
      subst hy
      refine r_goto (pc := 86) (tgt := 65) dX5_init_86 (by decide) ?_
      have hk2 : ∀ x, (x < (a + 5077) + 308 * c ∨ (a + 5077) + 308 * c + 308 ≤ x) → x ≠ (a + 5073) + c → (gPut U1 ((a + 5073) + c) ((a + 5077) + 308 * c)).2.1 x = U.2.1 x := fun x hx hne => by
        simp only [gPut]
        rw [if_neg hne, (r3 x (by omega)).1]
        simp only [gNew, gZt]
        rw [if_neg (by omega)]
      have hk3 : ∀ x, (x < (a + 5077) + 308 * c ∨ (a + 5077) + 308 * c + 308 ≤ x) → σ1 x = σc x := fun x hx => by
        rw [(r3 x hx).2]
        simp only [gZ]
        rw [if_neg (by omega)]
      have hk4 : ∀ x, (a + 5077) + 308 * c ≤ x → x < (a + 5077) + 308 * c + 308 → (gPut U1 ((a + 5073) + c) ((a + 5077) + 308 * c)).2.1 x = U1.2.1 x := fun x hx hx2 => by
        simp only [gPut]
        rw [if_neg (by omega)]
      have hk5 : (gPut U1 ((a + 5073) + c) ((a + 5077) + 308 * c)).2.1 ((a + 5073) + c) = (a + 5077) + 308 * c + 1 := by
        simp only [gPut]
        rw [if_pos trivial]
      have K := ih (c + 1) (gPut U1 ((a + 5073) + c) ((a + 5077) + 308 * c)) σ1 (by omega) (by simp only [gPut] <;> omega) (by simp only [gPut]; rw [r2]; exact q2)
      have K2 := K (fun x hx => by rw [hk2 x (by omega) (by omega)]; exact q3 x hx) (fun x hx => by rw [hk3 x (by omega)]; exact q4 x hx) (fun i hi => by
        by_cases hic : i = c
        · subst hic
          exact ⟨hk5, hEkeep _ U1.2.1 _ hk4 r4 r5⟩
        · have q := q6 i (by omega)
          exact ⟨by rw [hk2 _ (by omega) (by omega)]; exact q.1, hEkeep _ U.2.1 _ (fun x h1 h2 => hk2 x (by omega) (by omega)) q.2.1 q.2.2⟩)
      rw [gSuc]
      rw [show 742 + 46 * c + 1 + 45 = 742 + 46 * (c + 1) by omega, show 5071 + 308 * c + 11 + 297 = 5071 + 308 * (c + 1) by omega]
      exact r_mask [true, true] rfl (K2)
  exact r_mask [true, true] rfl (L 2 0 V τ rfl v1 v2 (fun _ _ => rfl) (fun _ _ => rfl) (fun i hi => absurd hi (by omega)))
/-! the references of the whole world are those of gTau -/
def gBkd (d : Nat) : Bool := (decide (6 ≤ d) && decide (d < 21)) || (decide (68 ≤ d) && decide (d < 308) && decide (8 ≤ (d - 68) % 24) && decide ((d - 68) % 24 ≤ 10))
def gFormS (x : Nat) : Bool := decide (x < 7) || decide (x = 744) || (decide (747 ≤ x) && decide (x < 761)) || (decide (5073 ≤ x) && decide (x < 5075)) || (decide (128 ≤ x) && decide (x < 744) && gBkd ((x - 128) % 308)) || (decide (761 ≤ x) && decide (x < 5073) && gBkd ((x - 761) % 308)) || (decide (5077 ≤ x) && decide (x < 5693) && gBkd ((x - 5077) % 308))
def gForm (x : Nat) : Bool := if x < 5693 then gFormS x else gFormS (x - 5693)
theorem gRefForm : ∀ o ∈ gObs, (o.2.1 < 6 ∨ (9 ≤ o.2.1 ∧ o.2.1 < 11)) → ∀ j, j < gSz o → (o.2.1 < 6 → gRef o.2.1 j = true) → gForm (o.1 + j) = true := by decide +kernel
theorem gBk_tau : ∀ b, (b, 0, 0) ∈ gObs → gRB b gTau ∧ gRE b 10 gTau := fun b hb => by
  refine ⟨⟨(gB0_6 _ hb rfl rfl).1, (gB0_7 _ hb rfl rfl).1, (gB0_8 _ hb rfl rfl).1, (gB0_9 _ hb rfl rfl).1, (gB0_10 _ hb rfl rfl).1⟩, fun i hi => ?_⟩
  have h1 := (gB0_6 _ hb rfl rfl).2
  obtain ⟨h2, h3⟩ := gB10 _ h1 rfl rfl i hi
  have e : b + 11 + 57 + 24 * i = b + 68 + 24 * i := by omega
  simp only [e] at h2 h3
  exact ⟨h2, (gB1_8 _ h3 rfl rfl).1, (gB1_9 _ h3 rfl rfl).1, (gB1_10 _ h3 rfl rfl).1⟩
theorem gBk_eq {b : Nat} {τ τ' : Nat → Nat} (h1 : gRB b τ ∧ gRE b 10 τ) (h2 : gRB b τ' ∧ gRE b 10 τ') {d : Nat} (hd : gBkd d = true) : τ (b + d) = τ' (b + d) := by
  simp only [gBkd, Bool.or_eq_true, Bool.and_eq_true, decide_eq_true_eq] at hd
  rcases hd with ⟨q1, q2⟩ | ⟨⟨⟨q1, q2⟩, q3⟩, q4⟩
  · by_cases h11 : d < 11
    · rcases (show d = 6 ∨ d = 7 ∨ d = 8 ∨ d = 9 ∨ d = 10 by omega) with q | q | q | q | q <;> subst q
      · rw [h1.1.1, h2.1.1]
      · rw [h1.1.2.1, h2.1.2.1]
      · rw [h1.1.2.2.1, h2.1.2.2.1]
      · rw [h1.1.2.2.2.1, h2.1.2.2.2.1]
      · rw [h1.1.2.2.2.2, h2.1.2.2.2.2]
    · have e : b + d = b + 11 + (d - 11) := by omega
      rw [e, (h1.2 (d - 11) (by omega)).1, (h2.2 (d - 11) (by omega)).1]
  · have e : b + d = b + 68 + 24 * ((d - 68) / 24) + (d - 68) % 24 := by omega
    have hi : (d - 68) / 24 < 10 := by omega
    have k1 := (h1.2 _ hi).2
    have k2 := (h2.2 _ hi).2
    rw [e]
    rcases (show (d - 68) % 24 = 8 ∨ (d - 68) % 24 = 9 ∨ (d - 68) % 24 = 10 by omega) with q | q | q <;> rw [q]
    · rw [k1.1, k2.1]
    · rw [k1.2.1, k2.2.1]
    · rw [k1.2.2, k2.2.2]
theorem gObs_bks {a : Nat} (ha : a = 0 ∨ a = 5693) : ((a + 128, 0, 0) ∈ gObs ∧ (a + 436, 0, 0) ∈ gObs) ∧ (∀ i, i < 14 → (a + 761 + 308 * i, 0, 0) ∈ gObs) ∧ (∀ i, i < 2 → (a + 5077 + 308 * i, 0, 0) ∈ gObs) ∧ (a + 747, 9, 14) ∈ gObs ∧ (a + 5073, 9, 2) ∈ gObs := by
  rcases ha with r | r <;> subst r <;> decide +kernel
theorem gTauOk {a : Nat} (ha : a = 0 ∨ a = 5693) {τ : Nat → Nat} (h0 : τ a = a + 7 ∧ τ (a + 1) = a + 129 ∧ τ (a + 2) = a + 437 ∧ τ (a + 3) = a + 745 ∧ τ (a + 4) = a + 5074 ∧ τ (a + 5) = a + 5076 ∧ τ (a + 6) = a + 9 ∧ τ (a + 744) = a + 748) (hb : gRB (a + 128) τ ∧ gRE (a + 128) 10 τ ∧ gRB (a + 436) τ ∧ gRE (a + 436) 10 τ) (hs : ∀ i, i < 14 → τ (a + 747 + i) = a + 761 + 308 * i + 1 ∧ gRB (a + 761 + 308 * i) τ ∧ gRE (a + 761 + 308 * i) 10 τ) (hq : ∀ i, i < 2 → τ (a + 5073 + i) = a + 5077 + 308 * i + 1 ∧ gRB (a + 5077 + 308 * i) τ ∧ gRE (a + 5077 + 308 * i) 10 τ) : ∀ x, gFormS x = true → gTau (a + x) = τ (a + x) := by
  intro x hx
  have hO := gObs_bks ha
  simp only [gFormS, Bool.or_eq_true, Bool.and_eq_true, decide_eq_true_eq] at hx
  rcases hx with (((((q | q) | q) | q) | q) | q) | q
  · rcases (show x = 0 ∨ x = 1 ∨ x = 2 ∨ x = 3 ∨ x = 4 ∨ x = 5 ∨ x = 6 by omega) with q | q | q | q | q | q | q <;> subst q
    · rw [Nat.add_zero, h0.1]; rcases ha with r | r <;> subst r <;> rfl
    · rw [h0.2.1]; rcases ha with r | r <;> subst r <;> rfl
    · rw [h0.2.2.1]; rcases ha with r | r <;> subst r <;> rfl
    · rw [h0.2.2.2.1]; rcases ha with r | r <;> subst r <;> rfl
    · rw [h0.2.2.2.2.1]; rcases ha with r | r <;> subst r <;> rfl
    · rw [h0.2.2.2.2.2.1]; rcases ha with r | r <;> subst r <;> rfl
    · rw [h0.2.2.2.2.2.2.1]; rcases ha with r | r <;> subst r <;> rfl
  · subst q
    rw [h0.2.2.2.2.2.2.2]; rcases ha with r | r <;> subst r <;> rfl
  · have e : a + x = a + 747 + (x - 747) := by omega
    rw [e, (hs (x - 747) (by omega)).1, (gB9_14 _ hO.2.2.2.1 rfl rfl (x - 747) (by omega)).1]
  · have e : a + x = a + 5073 + (x - 5073) := by omega
    rw [e, (hq (x - 5073) (by omega)).1, (gB9_2 _ hO.2.2.2.2 rfl rfl (x - 5073) (by omega)).1]
  · obtain ⟨⟨q1, q2⟩, q3⟩ := q
    by_cases h2 : x < 436
    · have e : a + x = a + 128 + (x - 128) % 308 := by omega
      rw [e]
      exact gBk_eq (gBk_tau _ hO.1.1) ⟨hb.1, hb.2.1⟩ q3
    · have e : a + x = a + 436 + (x - 128) % 308 := by omega
      rw [e]
      exact gBk_eq (gBk_tau _ hO.1.2) ⟨hb.2.2.1, hb.2.2.2⟩ q3
  · obtain ⟨⟨q1, q2⟩, q3⟩ := q
    have e : a + x = a + 761 + 308 * ((x - 761) / 308) + (x - 761) % 308 := by omega
    have hi : (x - 761) / 308 < 14 := by omega
    rw [e]
    exact gBk_eq (gBk_tau _ (hO.2.1 _ hi)) (hs _ hi).2 q3
  · obtain ⟨⟨q1, q2⟩, q3⟩ := q
    have e : a + x = a + 5077 + 308 * ((x - 5077) / 308) + (x - 5077) % 308 := by omega
    have hi : (x - 5077) / 308 < 2 := by omega
    rw [e]
    exact gBk_eq (gBk_tau _ (hO.2.2.1 _ hi)) (hq _ hi).2 q3
