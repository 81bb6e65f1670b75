/-! contracts of methods of JDK classes; texts -/
theorem gMet_ofF {l : Launch} {G : gX} {u : gU} {y : MethodName} {rm : Room} {as : List Value} {σ σ1 : gM} {r : Option Value} {cc : ByteArray} {maxL k : Nat} {ret : Option FieldType} {own : String} (hy : plainFor y = true) (hown : y.cls = own) (hrm : rm.cells = 0 ∧ rm.slots = 0) (hlen : (lg_sl (as.map (gV G))).length ≤ maxL) (ls : List (Option Value)) (hls : gArgs as ++ List.replicate k none = ls)
    (body : ∀ Y : gY, Y.1 = G → Y.2.1 = u → gNL Y = maxL → gLn Y = l → gRm Y = rm → gEnd Y ret σ1 r → AW Y cc own 0 ls [] σ) : gMet l G u y (.code y cc maxL ret) rm as σ σ1 r := by
  unfold gMet Met
  refine MetFree.of_bodySF (code := cc) (maxLocals := maxL) (ret := ret) hy ?_ ?_
  · intro args s m h hn
    obtain ⟨meth, c, h1, h2, h3, h4, h5, h6, -, -⟩ := Cond.code_spec hn (atoms_spec (ws := Cond.code y cc maxL ret :: gG) h _ List.mem_cons_self)
    exact ⟨meth, c, h1, h2, h3, h4, h5, h6⟩
  · intro p e s m args below meth c s₁ B hml hv _
    obtain ⟨rfl, hW⟩ := hv
    have hts := atoms_spec (ws := Cond.code y cc maxL ret :: gG) B.pre
    have hown' : s.vm.findClass own = some m.cls := by rw [← hown]; exact findClass_of_methodNamed B.named
    have hl := lv_entry (as.map (gV G)) (n := maxL) hlen
    have hh0 : s₁.heap = s.heap := by rw [B.state]; rfl
    rw [lg_entry_eq]
    generalize (lg_sl (as.map (gV G)) ++ List.replicate (maxL - (lg_sl (as.map (gV G))).length) Slot.unset).toArray = la at hl ⊢
    have hl2 : lv_has la maxL (gPr G 0 ls) := by rw [← hls, gPr_args]; exact hl
    obtain ⟨t, a1, o, b1, b2, b3⟩ := body (G, u, maxL, p, l, e, rm, s, m, (as.map (gV G)).toArray, below, meth, c, 0, 0, MQ below (gQ G u σ1 r) (as.map (gV G)).toArray s 0 0 (gA G)) rfl rfl rfl rfl rfl ⟨B.returns, B.notSynchronized, rfl⟩ ⟨B.exec, B.bytes, hml, hown', fun w hw => hts w (List.mem_cons_of_mem _ hw), hW.2.2.2.2, Nat.zero_le _, Nat.zero_le _⟩ s.heap [] la hW va_S.rf hl2 s₁ hh0 (Stand.of_body B)
    exact ⟨t, o, a1, b1, b2, ⟨b3.1, b3.2⟩⟩
section GJ
variable {Y : gY} {cc : ByteArray} {own : String} {pc : Nat} {ls : List (Option Value)} {st stk : List Value} {σ σ1 : gM} {β : Type} {o : β}
theorem r_ishr {x y : Int32} (hd : decode cc pc = .ok (.ishr, 1)) (k : AW Y cc own (pc + 1) ls (.int (x >>> (y &&& 31)) :: st) σ) : AW Y cc own pc ls (.int y :: .int x :: st) σ := by
  obtain ⟨G, u, nL, p, l, e, R, s, m, args, below, meth, c, cells, slots, Q⟩ := Y
  intro hf H locs la hW hS hl
  exact lv_ishr hf.1 hf.2.1 hd (k hf H locs la hW hS hl)
theorem r_aloadV_n {kk : Fin 4} {i : Nat} {v : Value} (hv : v = .null ∨ ∃ a, v = .ref a) (hd : decode cc pc = .ok (.aload_n kk, 1)) (hi : (kk : Nat) = i) (hx : ls[i]? = some (some v)) (hno : False) : AW Y cc own pc ls st σ := hno.elim
theorem r_popV {v : Value} (hv : v.category = 1) (hd : decode cc pc = .ok (.pop, 1)) (k : AW Y cc own (pc + 1) ls st σ) : AW Y cc own pc ls (v :: st) σ := r_pop hd hv k
theorem r_ldcT {i idx : Nat} (hi : i < 8) (hk : gTk.getD i 0 = idx) (hd : decode cc pc = .ok (.ldc idx, 2)) (k : AW Y cc "LoafRounds$Text" (pc + 2) ls (.ref (20030 + i) :: st) σ) : AW Y cc "LoafRounds$Text" pc ls st σ := by
  subst hk
  obtain ⟨G, u, nL, p, l, e, R, s, m, args, below, meth, c, cells, slots, Q⟩ := Y
  intro hf H locs la hW hS hl
  exact va_ldcS hf.1 hf.2.1 hf.2.2.2.1 (hW.2.2.1.2.2.1 i hi) hd (k hf H locs la hW hS hl)
theorem r_strV {i : Nat} (hi : i < 8) (hl : Cond.fieldLink own 9 "java/lang/String" "value" "[B" ∈ gG) (hd : decode cc pc = .ok (.getfield 9, 3)) (k : AW Y cc own (pc + 3) ls (.ref (20040 + i) :: st) σ) : AW Y cc own pc ls (.ref (20030 + i) :: st) σ := by
  obtain ⟨G, u, nL, p, l, e, R, s, m, args, below, meth, c, cells, slots, Q⟩ := Y
  intro hf H locs la hW hS hlv
  have q := gSt_back hW.2.2.2.1 hS hf.2.2.2.2.2.1
  exact vk_getf hf.1 hf.2.1 (q.2.2.2.2.1.1 i hi).2.2.1 hS hf.2.2.2.1 (hf.2.2.2.2.1 _ (by assumption)) (fun _ h9 => h9) hd (k hf H locs la hW hS hlv)
theorem r_strC {i : Nat} (hi : i < 8) (hl : Cond.fieldLink own 15 "java/lang/String" "coder" "B" ∈ gG) (hd : decode cc pc = .ok (.getfield 15, 3)) (k : AW Y cc own (pc + 3) ls (.int 0 :: st) σ) : AW Y cc own pc ls (.ref (20030 + i) :: st) σ := by
  obtain ⟨G, u, nL, p, l, e, R, s, m, args, below, meth, c, cells, slots, Q⟩ := Y
  intro hf H locs la hW hS hlv
  have q := gSt_back hW.2.2.2.1 hS hf.2.2.2.2.2.1
  exact vk_getf hf.1 hf.2.1 (q.2.2.2.2.1.1 i hi).2.1 hS hf.2.2.2.1 (hf.2.2.2.2.1 _ (by assumption)) (fun _ h9 => h9) hd (k hf H locs la hW hS hlv)
theorem r_strL {i : Nat} (hi : i < 8) (hd : decode cc pc = .ok (.arraylength, 1)) (k : AW Y cc own (pc + 1) ls (.int (Int32.ofNat (gTlen.getD i 0)) :: st) σ) : AW Y cc own pc ls (.ref (20040 + i) :: st) σ := by
  obtain ⟨G, u, nL, p, l, e, R, s, m, args, below, meth, c, cells, slots, Q⟩ := Y
  intro hf H locs la hW hS hlv
  have q := gSt_back hW.2.2.2.1 hS hf.2.2.2.2.2.1
  exact va_tlen hf.1 hf.2.1 (q.2.2.2.2.1.1 i hi).2.2.2 hS rfl hd (k hf H locs la hW hS hlv)
def gTb2 {β : Type} (i : Nat) (j : Int32) (k : Int32 → Option β) : Option β := if j < 0 ∨ gTlen.getD i 0 ≤ j.toNatClampNeg then none else k ((gTbyt.getD i []).getD j.toNatClampNeg 0)
theorem r_strB {i : Nat} {j : Int32} {E : Int32 → Option β} (hi : i < 8) (hd : decode cc pc = .ok (.baload, 1)) (h : gTb2 i j E = some o) (k : ∀ x, E x = some o → AW Y cc own (pc + 1) ls (.int x :: st) σ) : AW Y cc own pc ls (.int j :: .ref (20040 + i) :: st) σ := by
  unfold gTb2 at h
  split at h
  · cases h
  rename_i hj
  obtain ⟨G, u, nL, p, l, e, R, s, m, args, below, meth, c, cells, slots, Q⟩ := Y
  intro hf H locs la hW hS hlv
  have q := gSt_back hW.2.2.2.1 hS hf.2.2.2.2.2.1
  exact va_tb hf.1 hf.2.1 (q.2.2.2.2.1.1 i hi).2.2.2 hS hj rfl hd (k _ h hf H locs la hW hS hlv)
theorem r_comp (hl : Cond.fieldLink own 38 "java/lang/String" "COMPACT_STRINGS" "Z" ∈ gG) (hd : decode cc pc = .ok (.getstatic 38, 3)) (k : AW Y cc own (pc + 3) ls (.int 1 :: st) σ) : AW Y cc own pc ls st σ := r_gets (v := .int 1) (fun _ _ q => q.2.2.2.2.2.1) hl hd k
def gOkS {β : Type} (y : Nat) (k : Nat → Option β) : Option β := if 20030 ≤ y ∧ y < 20038 then k (y - 20030) else none
theorem gOkS_some {β : Type} {y : Nat} {k : Nat → Option β} {o : β} (h : gOkS y k = some o) : ∃ i, i < 8 ∧ y = 20030 + i ∧ k i = some o := by
  unfold gOkS at h
  split at h
  · rename_i hy
    exact ⟨y - 20030, by omega, by omega, h⟩
  · cases h
def gRV (v : Value) : Prop := v = .null ∨ v = .ref 20050
theorem r_callVS {i : Nat} (as : List Value) {y : MethodName} {bytes : ByteArray} {maxL n idx : Nat} {ret : Option FieldType} {rm : Room} {r : Option Value} (hM : gMet (gLn Y) Y.1 Y.2.1 y (.code y bytes maxL ret) rm (.ref (20030 + i) :: as) σ σ1 r) (hrm : rm.cells = 0 ∧ rm.slots = 0) (hcd : Cond.code y bytes maxL ret ∈ gG) (hw : Cond.methodLink own idx y ∈ gG ∧ Cond.instanceMethod y ∈ gG ∧ Cond.selects "java/lang/String" y y ∈ gG ∧ Cond.initialized y.cls ∈ gG) (hnm : gNm y n) (hn : as.length = n) (hR : rm.frames + 1 ≤ (gRm Y).frames ∧ 8 + (maxL + 11) + rm.locals ≤ (gRm Y).locals) (hst : as.reverse ++ .ref (20030 + i) :: st = stk) (hcat : (st.map fun v => v.category).sum ≤ 8) (hi : i < 8) (hd : decode cc pc = .ok (.invokevirtual idx, 3))
    (k : AW Y cc own (pc + 3) ls (r.toList ++ st) σ1) : AW Y cc own pc ls stk σ := by
  subst hst
  obtain ⟨G, u, nL, p, l, e, R, s, m, args, below, meth, c, cells, slots, Q⟩ := Y
  intro hf H locs la hW hS hl
  have hts := hf.2.2.2.2.1
  have q := gSt_back hW.2.2.2.1 hS hf.2.2.2.2.2.1
  refine gAfter (va_runV (As := as.map (gV G)) (b := G.2.2.1 (20030 + i)) (C := "java/lang/String") (rest := st.map (gV G)) (n := n) (Ts := gG) ⟨hf.1, hf.2.1, hf.2.2.1, hf.2.2.2.1, hts⟩ hM ⟨callB_of n hts (gG_good hcd) rfl hrm.1 hrm.2 (hts _ hw.2.2.2) (hts _ hw.1) hnm hR, hts _ hw.2.1, hts _ hw.2.2.1⟩ ⟨gBlind, vk_recv (i := i) q.2.2.2.2.1 hi hS, fun U hU hw1 => ⟨rfl, ?_⟩⟩ rfl (by rw [List.length_map]; exact hn) hl.1 (by rw [List.map_append, List.map_reverse]; rfl) ?_ hd ⟨hf.2.2.2.2.2.2.1, hf.2.2.2.2.2.2.2⟩) hf.2.2.2.2.2.1 hW hS (fun H1 locs1 hW1 hS1 => ?_)
  · show gWd G u σ U U.heap
    rw [hU]
    exact gWd_warm hw1 hW
  · rw [gCat]
    show 2 * 0 + _ ≤ 8
    omega
  · rw [gStk]
    exact k hf H1 locs1 la hW1 hS1 hl
theorem r_sio (hl : Cond.fieldLink own 1053 "jdk/internal/util/Preconditions" "SIOOBE_FORMATTER" "Ljava/util/function/BiFunction;" ∈ gG) (hd : decode cc pc = .ok (.getstatic 1053, 3)) (k : ∀ v, gRV v → AW Y cc own (pc + 3) ls (v :: st) σ) : AW Y cc own pc ls st σ := by
  obtain ⟨G, u, nL, p, l, e, R, s, m, args, below, meth, c, cells, slots, Q⟩ := Y
  intro hf H locs la hW hS hlv
  rcases (gSt_back hW.2.2.2.1 hS hf.2.2.2.2.2.1).2.2.2.2.2.2.1 with hZ | hZ
  · exact va_gets hf.1 hf.2.1 hZ hS hf.2.2.2.1 (hf.2.2.2.2.1 _ (by assumption)) (fun _ h9 => h9) hd (k .null (Or.inl rfl) hf H locs la hW hS hlv)
  · exact va_gets hf.1 hf.2.1 hZ hS hf.2.2.2.1 (hf.2.2.2.2.1 _ (by assumption)) (fun _ h9 => h9) hd (k (.ref 20050) (Or.inr rfl) hf H locs la hW hS hlv)
end GJ
theorem cd_J0_length_8abf5 : Cond.code yJ0_length_8abf5 cJ0_length_8abf5 1 (some .int) ∈ gG := gG_mem (List.mem_of_getElem? (i := 389) (by decide +kernel)) rfl
theorem nm_J0_length_8abf5 : gNm yJ0_length_8abf5 0 := by unfold gNm; decide +kernel
theorem cd_J0_isEmpty_aae02 : Cond.code yJ0_isEmpty_aae02 cJ0_isEmpty_aae02 1 (some .boolean) ∈ gG := gG_mem (List.mem_of_getElem? (i := 385) (by decide +kernel)) rfl
theorem nm_J0_isEmpty_aae02 : gNm yJ0_isEmpty_aae02 0 := by unfold gNm; decide +kernel
theorem cd_J0_charAt_5068e : Cond.code yJ0_charAt_5068e cJ0_charAt_5068e 2 (some .char) ∈ gG := gG_mem (List.mem_of_getElem? (i := 399) (by decide +kernel)) rfl
theorem nm_J0_charAt_5068e : gNm yJ0_charAt_5068e 1 := by unfold gNm; decide +kernel
theorem cd_J0_coder_7d493 : Cond.code yJ0_coder_7d493 cJ0_coder_7d493 1 (some .byte) ∈ gG := gG_mem (List.mem_of_getElem? (i := 393) (by decide +kernel)) rfl
theorem nm_J0_coder_7d493 : gNm yJ0_coder_7d493 0 := by unfold gNm; decide +kernel
theorem cd_J0_isLatin1_aae02 : Cond.code yJ0_isLatin1_aae02 cJ0_isLatin1_aae02 1 (some .boolean) ∈ gG := gG_mem (List.mem_of_getElem? (i := 403) (by decide +kernel)) rfl
theorem nm_J0_isLatin1_aae02 : gNm yJ0_isLatin1_aae02 0 := by unfold gNm; decide +kernel
theorem cd_J0_checkIndex_df160 : Cond.code yJ0_checkIndex_df160 cJ0_checkIndex_df160 2 none ∈ gG := gG_mem (List.mem_of_getElem? (i := 409) (by decide +kernel)) rfl
theorem nm_J0_checkIndex_df160 : gNm yJ0_checkIndex_df160 2 := by unfold gNm; decide +kernel
theorem cd_J1_charAt_3b067 : Cond.code yJ1_charAt_3b067 cJ1_charAt_3b067 2 (some .char) ∈ gG := gG_mem (List.mem_of_getElem? (i := 406) (by decide +kernel)) rfl
theorem nm_J1_charAt_3b067 : gNm yJ1_charAt_3b067 2 := by unfold gNm; decide +kernel
theorem cd_J3_checkIndex_8e157 : Cond.code yJ3_checkIndex_8e157 cJ3_checkIndex_8e157 3 (some .int) ∈ gG := gG_mem (List.mem_of_getElem? (i := 414) (by decide +kernel)) rfl
theorem nm_J3_checkIndex_8e157 : gNm yJ3_checkIndex_8e157 3 := by unfold gNm; decide +kernel
theorem wX4_43 : Cond.methodLink RX4 43 yJ0_length_8abf5 ∈ gG ∧ Cond.instanceMethod yJ0_length_8abf5 ∈ gG ∧ Cond.selects "java/lang/String" yJ0_length_8abf5 yJ0_length_8abf5 ∈ gG ∧ Cond.initialized (yJ0_length_8abf5).cls ∈ gG := ⟨gG_mem (List.mem_of_getElem? (i := 386) (by decide +kernel)) rfl, gG_mem (List.mem_of_getElem? (i := 387) (by decide +kernel)) rfl, gG_mem (List.mem_of_getElem? (i := 388) (by decide +kernel)) rfl, gG_mem (List.mem_of_getElem? (i := 70) (by decide +kernel)) rfl⟩
theorem wX4_48 : Cond.methodLink RX4 48 yJ0_isEmpty_aae02 ∈ gG ∧ Cond.instanceMethod yJ0_isEmpty_aae02 ∈ gG ∧ Cond.selects "java/lang/String" yJ0_isEmpty_aae02 yJ0_isEmpty_aae02 ∈ gG ∧ Cond.initialized (yJ0_isEmpty_aae02).cls ∈ gG := ⟨gG_mem (List.mem_of_getElem? (i := 382) (by decide +kernel)) rfl, gG_mem (List.mem_of_getElem? (i := 383) (by decide +kernel)) rfl, gG_mem (List.mem_of_getElem? (i := 384) (by decide +kernel)) rfl, gG_mem (List.mem_of_getElem? (i := 70) (by decide +kernel)) rfl⟩
theorem wX4_52 : Cond.methodLink RX4 52 yJ0_charAt_5068e ∈ gG ∧ Cond.instanceMethod yJ0_charAt_5068e ∈ gG ∧ Cond.selects "java/lang/String" yJ0_charAt_5068e yJ0_charAt_5068e ∈ gG ∧ Cond.initialized (yJ0_charAt_5068e).cls ∈ gG := ⟨gG_mem (List.mem_of_getElem? (i := 396) (by decide +kernel)) rfl, gG_mem (List.mem_of_getElem? (i := 397) (by decide +kernel)) rfl, gG_mem (List.mem_of_getElem? (i := 398) (by decide +kernel)) rfl, gG_mem (List.mem_of_getElem? (i := 70) (by decide +kernel)) rfl⟩
theorem wJ0_335 : Cond.methodLink RJ0 335 yJ0_coder_7d493 ∈ gG ∧ Cond.instanceMethod yJ0_coder_7d493 ∈ gG ∧ Cond.selects "java/lang/String" yJ0_coder_7d493 yJ0_coder_7d493 ∈ gG ∧ Cond.initialized (yJ0_coder_7d493).cls ∈ gG := ⟨gG_mem (List.mem_of_getElem? (i := 390) (by decide +kernel)) rfl, gG_mem (List.mem_of_getElem? (i := 391) (by decide +kernel)) rfl, gG_mem (List.mem_of_getElem? (i := 392) (by decide +kernel)) rfl, gG_mem (List.mem_of_getElem? (i := 70) (by decide +kernel)) rfl⟩
theorem wJ0_492 : Cond.methodLink RJ0 492 yJ0_isLatin1_aae02 ∈ gG ∧ Cond.instanceMethod yJ0_isLatin1_aae02 ∈ gG ∧ Cond.selects "java/lang/String" yJ0_isLatin1_aae02 yJ0_isLatin1_aae02 ∈ gG ∧ Cond.initialized (yJ0_isLatin1_aae02).cls ∈ gG := ⟨gG_mem (List.mem_of_getElem? (i := 400) (by decide +kernel)) rfl, gG_mem (List.mem_of_getElem? (i := 401) (by decide +kernel)) rfl, gG_mem (List.mem_of_getElem? (i := 402) (by decide +kernel)) rfl, gG_mem (List.mem_of_getElem? (i := 70) (by decide +kernel)) rfl⟩
theorem wJ0_495 : Cond.methodLink RJ0 495 yJ1_charAt_3b067 ∈ gG ∧ Cond.static yJ1_charAt_3b067 ∈ gG ∧ Cond.initialized (yJ1_charAt_3b067).cls ∈ gG := ⟨gG_mem (List.mem_of_getElem? (i := 404) (by decide +kernel)) rfl, gG_mem (List.mem_of_getElem? (i := 405) (by decide +kernel)) rfl, gG_mem (List.mem_of_getElem? (i := 71) (by decide +kernel)) rfl⟩
theorem wJ0_1059 : Cond.methodLink RJ0 1059 yJ3_checkIndex_8e157 ∈ gG ∧ Cond.static yJ3_checkIndex_8e157 ∈ gG ∧ Cond.initialized (yJ3_checkIndex_8e157).cls ∈ gG := ⟨gG_mem (List.mem_of_getElem? (i := 412) (by decide +kernel)) rfl, gG_mem (List.mem_of_getElem? (i := 413) (by decide +kernel)) rfl, gG_mem (List.mem_of_getElem? (i := 72) (by decide +kernel)) rfl⟩
theorem wJ1_9 : Cond.methodLink RJ1 9 yJ0_checkIndex_df160 ∈ gG ∧ Cond.static yJ0_checkIndex_df160 ∈ gG ∧ Cond.initialized (yJ0_checkIndex_df160).cls ∈ gG := ⟨gG_mem (List.mem_of_getElem? (i := 407) (by decide +kernel)) rfl, gG_mem (List.mem_of_getElem? (i := 408) (by decide +kernel)) rfl, gG_mem (List.mem_of_getElem? (i := 70) (by decide +kernel)) rfl⟩
theorem wJ2_414 : Cond.methodLink RJ2 414 yJ0_checkIndex_df160 ∈ gG ∧ Cond.static yJ0_checkIndex_df160 ∈ gG ∧ Cond.initialized (yJ0_checkIndex_df160).cls ∈ gG := ⟨gG_mem (List.mem_of_getElem? (i := 424) (by decide +kernel)) rfl, gG_mem (List.mem_of_getElem? (i := 408) (by decide +kernel)) rfl, gG_mem (List.mem_of_getElem? (i := 70) (by decide +kernel)) rfl⟩
theorem kJ0_9 : Cond.fieldLink RJ0 9 "java/lang/String" "value" "[B" ∈ gG := gG_mem (List.mem_of_getElem? (i := 960) (by decide +kernel)) rfl
theorem kJ0_15 : Cond.fieldLink RJ0 15 "java/lang/String" "coder" "B" ∈ gG := gG_mem (List.mem_of_getElem? (i := 961) (by decide +kernel)) rfl
theorem kJ0_38 : Cond.fieldLink RJ0 38 "java/lang/String" "COMPACT_STRINGS" "Z" ∈ gG := gG_mem (List.mem_of_getElem? (i := 394) (by decide +kernel)) rfl
theorem kJ0_1053 : Cond.fieldLink RJ0 1053 "jdk/internal/util/Preconditions" "SIOOBE_FORMATTER" "Ljava/util/function/BiFunction;" ∈ gG := gG_mem (List.mem_of_getElem? (i := 410) (by decide +kernel)) rfl
