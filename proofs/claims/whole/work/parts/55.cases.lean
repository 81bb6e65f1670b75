/-! the cases of the law's switch -/
theorem cL_202 : Cond.constantLong RL 202 4294967295 ∈ gG := gG_mem (List.mem_of_getElem? (i := 1286) (by decide +kernel)) rfl
/-- a call that both sides answer alike -/
def gOk (es : List Nat) (F : Option (gM × Nat × Int32)) (M : gM → Option (gM × Int32)) (m3 : gM) : Prop := ∃ (o : gM × Nat × Int32) (k : Int32) (m2 : gM) (b : Int32), F = some o ∧ gKd es o.2.1 = some k ∧ M o.1 = some (m2, b) ∧ fX6_thrown m2 = some (m3, k) ∧ (o.2.1 = 0 → o.2.2 = b)
def gOk2 (F : Option (gM × Int32)) (M : gM → Option (gM × Int32)) (m3 : gM) : Prop := ∃ (m1 : gM) (r : Int32), F = some (m1, r) ∧ M m1 = some (m3, r)
theorem gVin {n c L : Nat} (h : n + c < L) (hL : L ≤ 2560) : vp_in (Int32.ofNat n + Int32.ofNat c) L := by
  unfold vp_in
  rw [← Int32.ofNat_add]
  have h1 : (Int32.ofNat (n + c)).toNatClampNeg = n + c := Int32.toNatClampNeg_ofNat_of_lt (by omega)
  rw [h1]
  intro q
  rcases q with q | q
  · have := Int32.lt_iff_toInt_lt.mp q
    rw [Int32.toInt_ofNat_of_lt (by omega)] at this
    simp at this
    omega
  · omega
theorem gKz {es : List Nat} {e : Nat} (hes : gKd es e = some 0) (h3 : es.length ≤ 3) : e = 0 := by
  by_cases h0 : e = 0
  · exact h0
  · rcases es with _ | ⟨a, _ | ⟨b, _ | ⟨c, _ | ⟨d, t⟩⟩⟩⟩
    · simp [gKd, h0, gKi] at hes
    · exact absurd (gKd1 hes h0).2 (by decide)
    · rcases gKd2 hes h0 with q | q
      · exact absurd q.2 (by decide)
      · exact absurd q.2 (by decide)
    · rcases gKd3 hes h0 with q | q | q
      · exact absurd q.2 (by decide)
      · exact absurd q.2 (by decide)
      · exact absurd q.2 (by decide)
    · simp at h3
def gLs (n : Nat) : List (Option Value) := [some (.ref 30000), some (.ref 0), some (.ref 5693), some (.ref 10470), some (.int (Int32.ofNat n)), none, none]
def gSc (xs : Nat → Int32) (n c : Nat) : Int32 := xs (Int32.ofNat n + Int32.ofNat c).toNatClampNeg
set_option maxHeartbeats 4000000 in
set_option maxRecDepth 100000 in
theorem law_c0 {Y : gY} {L n : Nat} {xs : Nat → Int32} (hF0 : gFull Y.2.1) (hX0 : gScr Y L xs) (hn : n + 5 ≤ L) (hL : L ≤ 2560) (hnL0 : gNL Y = 7) (hRm0 : gRm Y = room_1) (hlt : (gLn Y).stackTraces = false) (hcs : (gCs Y).1 + 1 ≤ 601024 ∧ (gCs Y).2 + 6 ≤ 7293034) (m m3 : gM) (hq : gOk [2, 3] (fX5_append (gSc xs n 1) m) (fun q => fX6_append (gSc xs n 1) q) m3) (hc : ∀ u1 : gU, gFull u1 → AW (gYs Y u1 ((gCs Y).1 + 1) ((gCs Y).2 + 6)) cL_law RL 2074 (gLs n) [] m3) : AW Y cL_law RL 172 (gLs n) [] m := by
  obtain ⟨o, k, m2, b, q1, hk, q2, q3, hv⟩ := hq
  unfold gLs at hc ⊢
  refine r_aload_n (pc := 172) dL_law_172 rfl rfl ?_
  refine r_aload_n (pc := 173) dL_law_173 rfl rfl ?_
  refine r_iload (pc := 174) dL_law_174 rfl ?_
  refine r_iconst (pc := 176) (v := 1) dL_law_176 (by decide) ?_
  refine r_iadd (pc := 177) dL_law_177 ?_
  refine r_sld (pc := 178) (i := Int32.ofNat n + 1) hX0 dL_law_178 (gVin (c := 1) (by omega) hL) ?_
  refine r_aload_n (pc := 179) dL_law_179 rfl rfl ?_
  refine r_callSW (pc := 180) [.ref _, .int _, .ref _] (tL_append _ hlt _ _ hF0 _ _ _ q1 _ hk) ⟨rfl, rfl⟩ cd_L_append wL_111 nm_L_append rfl (by rw [hRm0]; decide) rfl (Nat.le_of_ble_eq_true rfl) dL_law_180 (by rw [hRm0]; exact hcs) ?_
  obtain ⟨Y1, hY1⟩ : ∃ Y1, Y1 = gYs Y (gUo Y.2.1 o) ((gCs Y).1 + 1) ((gCs Y).2 + 6) := ⟨_, rfl⟩
  have hF1 : gFull Y1.2.1 := by rw [hY1, gYs_u]; exact gUo_full hF0
  have hX1 : gScr Y1 L xs := by rw [hY1]; exact gYs_X hX0
  have hnL1 : gNL Y1 = 7 := by rw [hY1, gYs_nL]; exact hnL0
  have hRm1 : gRm Y1 = room_1 := by rw [hY1, gYs_Rm]; exact hRm0
  have hU1 : Y1.2.1 = gUo Y.2.1 o := by rw [hY1, gYs_u]
  have hc1 := hc (gUo Y.2.1 o) (gUo_full hF0)
  rw [← hY1] at hc1 ⊢
  refine r_istore (pc := 183) dL_law_183 (by rw [hnL1]; decide) rfl ?_
  refine r_aload_n (pc := 185) dL_law_185 rfl rfl ?_
  refine r_aload_n (pc := 186) dL_law_186 rfl rfl ?_
  refine r_iload (pc := 187) dL_law_187 rfl ?_
  refine r_iconst (pc := 189) (v := 1) dL_law_189 (by decide) ?_
  refine r_iadd (pc := 190) dL_law_190 ?_
  refine r_sld (pc := 191) (i := Int32.ofNat n + 1) hX1 dL_law_191 (gVin (c := 1) (by omega) hL) ?_
  refine r_callV (kd := 5) (pc := 192) [.int _] (tX6_append _ _ _ hF1 _ _ _ q2) ⟨rfl, rfl⟩ cd_X6_append wL_116 nm_X6_append rfl (by rw [hRm1]; decide) rfl (Nat.le_of_ble_eq_true rfl) rfl (by decide) (gO5 hF1) dL_law_192 ?_
  refine r_istore (pc := 195) dL_law_195 (by rw [hnL1]; decide) rfl ?_
  refine r_aload_n (pc := 197) dL_law_197 rfl rfl ?_
  refine r_callV (kd := 5) (pc := 198) [] (tX6_thrown _ _ _ hF1 _ _ q3) ⟨rfl, rfl⟩ cd_X6_thrown wL_117 nm_X6_thrown rfl (by rw [hRm1]; decide) rfl (Nat.le_of_ble_eq_true rfl) rfl (by decide) (gO5 hF1) dL_law_198 ?_
  refine r_iload (pc := 201) dL_law_201 rfl ?_
  refine r_icmpC_eq (pc := 203) (tgt := 208) dL_law_203 (by decide) (fun _ => ?_) (fun g => absurd rfl g)
  refine r_iload (pc := 208) dL_law_208 rfl ?_
  refine r_ifC_ne (pc := 210) (tgt := 225) dL_law_210 (by decide) (fun hk0 => ?_) (fun hk0 => ?_)
  · refine r_goto (pc := 225) (tgt := 2074) dL_law_225 (by decide) ?_
    exact r_mask [true, true, true, true, true, false, false] rfl hc1
  · subst hk0
    have hz : o.2.1 = 0 := gKz hk (by decide)
    have hv := hv hz
    subst hv
    refine r_aload_n (pc := 213) dL_law_213 rfl rfl ?_
    refine r_iconst (pc := 214) (v := 0) dL_law_214 (by decide) ?_
    refine r_lald (pc := 215) dL_law_215 (gOout hF1) ?_
    refine r_iload (pc := 216) dL_law_216 rfl ?_
    refine r_i2l (pc := 218) dL_law_218 ?_
    refine r_lcmp (pc := 219) dL_law_219 ?_
    refine r_ifC_eq (pc := 220) (tgt := 225) dL_law_220 (by decide) (fun _ => ?_) (fun g => absurd ((lg_cmp_eq _ _).mpr (by rw [hU1]; unfold gUo; rw [if_pos hz]; rfl)) g)
    refine r_goto (pc := 225) (tgt := 2074) dL_law_225 (by decide) ?_
    exact r_mask [true, true, true, true, true, false, false] rfl hc1
set_option maxHeartbeats 4000000 in
set_option maxRecDepth 100000 in
theorem law_c1 {Y : gY} {n : Nat} (hF0 : gFull Y.2.1) (hRm0 : gRm Y = room_1) (m m3 : gM) (hq : gOk2 (fX5_clearText m) (fun q => fX6_clearText q) m3) (hc : AW Y cL_law RL 2074 (gLs n) [] m3) : AW Y cL_law RL 228 (gLs n) [] m := by
  obtain ⟨m1, r, q1, q2⟩ := hq
  unfold gLs at hc ⊢
  refine r_aload_n (pc := 228) dL_law_228 rfl rfl ?_
  refine r_callV (kd := 4) (pc := 229) [] (tX5_clearText _ _ _ hF0 _ _ q1) ⟨rfl, rfl⟩ cd_X5_clearText wL_120 nm_X5_clearText rfl (by rw [hRm0]; decide) rfl (Nat.le_of_ble_eq_true rfl) rfl (by decide) (gO4 hF0) dL_law_229 ?_
  refine r_aload_n (pc := 232) dL_law_232 rfl rfl ?_
  refine r_callV (kd := 5) (pc := 233) [] (tX6_clearText _ _ _ hF0 _ _ q2) ⟨rfl, rfl⟩ cd_X6_clearText wL_123 nm_X6_clearText rfl (by rw [hRm0]; decide) rfl (Nat.le_of_ble_eq_true rfl) rfl (by decide) (gO5 hF0) dL_law_233 ?_
  exact r_icmpC_eq (pc := 236) (tgt := 2074) dL_law_236 (by decide) (fun _ => hc) (fun g => absurd rfl g)
set_option maxHeartbeats 4000000 in
set_option maxRecDepth 100000 in
theorem law_c2 {Y : gY} {n : Nat} (hF0 : gFull Y.2.1) (hRm0 : gRm Y = room_1) (m m3 : gM) (hq : gOk2 (fX5_errorPosition m) (fun q => fX6_errorPosition q) m3) (hc : AW Y cL_law RL 2074 (gLs n) [] m3) : AW Y cL_law RL 241 (gLs n) [] m := by
  obtain ⟨m1, r, q1, q2⟩ := hq
  unfold gLs at hc ⊢
  refine r_aload_n (pc := 241) dL_law_241 rfl rfl ?_
  refine r_callV (kd := 4) (pc := 242) [] (tX5_errorPosition _ _ _ hF0 _ _ q1) ⟨rfl, rfl⟩ cd_X5_errorPosition wL_124 nm_X5_errorPosition rfl (by rw [hRm0]; decide) rfl (Nat.le_of_ble_eq_true rfl) rfl (by decide) (gO4 hF0) dL_law_242 ?_
  refine r_aload_n (pc := 245) dL_law_245 rfl rfl ?_
  refine r_callV (kd := 5) (pc := 246) [] (tX6_errorPosition _ _ _ hF0 _ _ q2) ⟨rfl, rfl⟩ cd_X6_errorPosition wL_127 nm_X6_errorPosition rfl (by rw [hRm0]; decide) rfl (Nat.le_of_ble_eq_true rfl) rfl (by decide) (gO5 hF0) dL_law_246 ?_
  exact r_icmpC_eq (pc := 249) (tgt := 2074) dL_law_249 (by decide) (fun _ => hc) (fun g => absurd rfl g)
set_option maxHeartbeats 4000000 in
set_option maxRecDepth 100000 in
theorem law_c3 {Y : gY} {L n : Nat} {xs : Nat → Int32} (hF0 : gFull Y.2.1) (hX0 : gScr Y L xs) (hn : n + 5 ≤ L) (hL : L ≤ 2560) (hnL0 : gNL Y = 7) (hRm0 : gRm Y = room_1) (hlt : (gLn Y).stackTraces = false) (hcs : (gCs Y).1 + 1 ≤ 601024 ∧ (gCs Y).2 + 6 ≤ 7293034) (m m3 : gM) (hq : gOk [3] (fX5_load  m) (fun q => fX6_load  q) m3) (hc : ∀ u1 : gU, gFull u1 → AW (gYs Y u1 ((gCs Y).1 + 1) ((gCs Y).2 + 6)) cL_law RL 2074 (gLs n) [] m3) : AW Y cL_law RL 254 (gLs n) [] m := by
  obtain ⟨o, k, m2, b, q1, hk, q2, q3, hv⟩ := hq
  unfold gLs at hc ⊢
  refine r_aload_n (pc := 254) dL_law_254 rfl rfl ?_
  refine r_aload_n (pc := 255) dL_law_255 rfl rfl ?_
  refine r_callSW (pc := 256) [.ref _, .ref _] (tL_load _ hlt _ _ hF0  _ _ q1 _ hk) ⟨rfl, rfl⟩ cd_L_load wL_128 nm_L_load rfl (by rw [hRm0]; decide) rfl (Nat.le_of_ble_eq_true rfl) dL_law_256 (by rw [hRm0]; exact hcs) ?_
  obtain ⟨Y1, hY1⟩ : ∃ Y1, Y1 = gYs Y (gUo Y.2.1 o) ((gCs Y).1 + 1) ((gCs Y).2 + 6) := ⟨_, rfl⟩
  have hF1 : gFull Y1.2.1 := by rw [hY1, gYs_u]; exact gUo_full hF0
  have hX1 : gScr Y1 L xs := by rw [hY1]; exact gYs_X hX0
  have hnL1 : gNL Y1 = 7 := by rw [hY1, gYs_nL]; exact hnL0
  have hRm1 : gRm Y1 = room_1 := by rw [hY1, gYs_Rm]; exact hRm0
  have hU1 : Y1.2.1 = gUo Y.2.1 o := by rw [hY1, gYs_u]
  have hc1 := hc (gUo Y.2.1 o) (gUo_full hF0)
  rw [← hY1] at hc1 ⊢
  refine r_istore (pc := 259) dL_law_259 (by rw [hnL1]; decide) rfl ?_
  refine r_aload_n (pc := 261) dL_law_261 rfl rfl ?_
  refine r_callV (kd := 5) (pc := 262) [] (tX6_load _ _ _ hF1  _ _ q2) ⟨rfl, rfl⟩ cd_X6_load wL_131 nm_X6_load rfl (by rw [hRm1]; decide) rfl (Nat.le_of_ble_eq_true rfl) rfl (by decide) (gO5 hF1) dL_law_262 ?_
  refine r_istore (pc := 265) dL_law_265 (by rw [hnL1]; decide) rfl ?_
  refine r_aload_n (pc := 267) dL_law_267 rfl rfl ?_
  refine r_callV (kd := 5) (pc := 268) [] (tX6_thrown _ _ _ hF1 _ _ q3) ⟨rfl, rfl⟩ cd_X6_thrown wL_117 nm_X6_thrown rfl (by rw [hRm1]; decide) rfl (Nat.le_of_ble_eq_true rfl) rfl (by decide) (gO5 hF1) dL_law_268 ?_
  refine r_iload (pc := 271) dL_law_271 rfl ?_
  refine r_icmpC_eq (pc := 273) (tgt := 278) dL_law_273 (by decide) (fun _ => ?_) (fun g => absurd rfl g)
  refine r_iload (pc := 278) dL_law_278 rfl ?_
  refine r_ifC_ne (pc := 280) (tgt := 295) dL_law_280 (by decide) (fun hk0 => ?_) (fun hk0 => ?_)
  · refine r_goto (pc := 295) (tgt := 2074) dL_law_295 (by decide) ?_
    exact r_mask [true, true, true, true, true, false, false] rfl hc1
  · subst hk0
    have hz : o.2.1 = 0 := gKz hk (by decide)
    have hv := hv hz
    subst hv
    refine r_aload_n (pc := 283) dL_law_283 rfl rfl ?_
    refine r_iconst (pc := 284) (v := 0) dL_law_284 (by decide) ?_
    refine r_lald (pc := 285) dL_law_285 (gOout hF1) ?_
    refine r_iload (pc := 286) dL_law_286 rfl ?_
    refine r_i2l (pc := 288) dL_law_288 ?_
    refine r_lcmp (pc := 289) dL_law_289 ?_
    refine r_ifC_eq (pc := 290) (tgt := 295) dL_law_290 (by decide) (fun _ => ?_) (fun g => absurd ((lg_cmp_eq _ _).mpr (by rw [hU1]; unfold gUo; rw [if_pos hz]; rfl)) g)
    refine r_goto (pc := 295) (tgt := 2074) dL_law_295 (by decide) ?_
    exact r_mask [true, true, true, true, true, false, false] rfl hc1
set_option maxHeartbeats 4000000 in
set_option maxRecDepth 100000 in
theorem law_c4 {Y : gY} {L n : Nat} {xs : Nat → Int32} (hF0 : gFull Y.2.1) (hX0 : gScr Y L xs) (hn : n + 5 ≤ L) (hL : L ≤ 2560) (hnL0 : gNL Y = 7) (hRm0 : gRm Y = room_1) (hlt : (gLn Y).stackTraces = false) (hcs : (gCs Y).1 + 1 ≤ 601024 ∧ (gCs Y).2 + 6 ≤ 7293034) (m m3 : gM) (hq : gOk [2] (fX5_about (gSc xs n 1) m) (fun q => fX6_about (gSc xs n 1) q) m3) (hc : ∀ u1 : gU, gFull u1 → AW (gYs Y u1 ((gCs Y).1 + 1) ((gCs Y).2 + 6)) cL_law RL 2074 (gLs n) [] m3) : AW Y cL_law RL 298 (gLs n) [] m := by
  obtain ⟨o, k, m2, b, q1, hk, q2, q3, hv⟩ := hq
  unfold gLs at hc ⊢
  refine r_aload_n (pc := 298) dL_law_298 rfl rfl ?_
  refine r_aload_n (pc := 299) dL_law_299 rfl rfl ?_
  refine r_iload (pc := 300) dL_law_300 rfl ?_
  refine r_iconst (pc := 302) (v := 1) dL_law_302 (by decide) ?_
  refine r_iadd (pc := 303) dL_law_303 ?_
  refine r_sld (pc := 304) (i := Int32.ofNat n + 1) hX0 dL_law_304 (gVin (c := 1) (by omega) hL) ?_
  refine r_aload_n (pc := 305) dL_law_305 rfl rfl ?_
  refine r_callSW (pc := 306) [.ref _, .int _, .ref _] (tL_about _ hlt _ _ hF0 _ _ _ q1 _ hk) ⟨rfl, rfl⟩ cd_L_about wL_132 nm_L_about rfl (by rw [hRm0]; decide) rfl (Nat.le_of_ble_eq_true rfl) dL_law_306 (by rw [hRm0]; exact hcs) ?_
  obtain ⟨Y1, hY1⟩ : ∃ Y1, Y1 = gYs Y (gUo Y.2.1 o) ((gCs Y).1 + 1) ((gCs Y).2 + 6) := ⟨_, rfl⟩
  have hF1 : gFull Y1.2.1 := by rw [hY1, gYs_u]; exact gUo_full hF0
  have hX1 : gScr Y1 L xs := by rw [hY1]; exact gYs_X hX0
  have hnL1 : gNL Y1 = 7 := by rw [hY1, gYs_nL]; exact hnL0
  have hRm1 : gRm Y1 = room_1 := by rw [hY1, gYs_Rm]; exact hRm0
  have hU1 : Y1.2.1 = gUo Y.2.1 o := by rw [hY1, gYs_u]
  have hc1 := hc (gUo Y.2.1 o) (gUo_full hF0)
  rw [← hY1] at hc1 ⊢
  refine r_istore (pc := 309) dL_law_309 (by rw [hnL1]; decide) rfl ?_
  refine r_aload_n (pc := 311) dL_law_311 rfl rfl ?_
  refine r_aload_n (pc := 312) dL_law_312 rfl rfl ?_
  refine r_iload (pc := 313) dL_law_313 rfl ?_
  refine r_iconst (pc := 315) (v := 1) dL_law_315 (by decide) ?_
  refine r_iadd (pc := 316) dL_law_316 ?_
  refine r_sld (pc := 317) (i := Int32.ofNat n + 1) hX1 dL_law_317 (gVin (c := 1) (by omega) hL) ?_
  refine r_callV (kd := 5) (pc := 318) [.int _] (tX6_about _ _ _ hF1 _ _ _ q2) ⟨rfl, rfl⟩ cd_X6_about wL_134 nm_X6_about rfl (by rw [hRm1]; decide) rfl (Nat.le_of_ble_eq_true rfl) rfl (by decide) (gO5 hF1) dL_law_318 ?_
  refine r_istore (pc := 321) dL_law_321 (by rw [hnL1]; decide) rfl ?_
  refine r_aload_n (pc := 323) dL_law_323 rfl rfl ?_
  refine r_callV (kd := 5) (pc := 324) [] (tX6_thrown _ _ _ hF1 _ _ q3) ⟨rfl, rfl⟩ cd_X6_thrown wL_117 nm_X6_thrown rfl (by rw [hRm1]; decide) rfl (Nat.le_of_ble_eq_true rfl) rfl (by decide) (gO5 hF1) dL_law_324 ?_
  refine r_iload (pc := 327) dL_law_327 rfl ?_
  refine r_icmpC_eq (pc := 329) (tgt := 334) dL_law_329 (by decide) (fun _ => ?_) (fun g => absurd rfl g)
  refine r_iload (pc := 334) dL_law_334 rfl ?_
  refine r_ifC_ne (pc := 336) (tgt := 351) dL_law_336 (by decide) (fun hk0 => ?_) (fun hk0 => ?_)
  · refine r_goto (pc := 351) (tgt := 2074) dL_law_351 (by decide) ?_
    exact r_mask [true, true, true, true, true, false, false] rfl hc1
  · subst hk0
    have hz : o.2.1 = 0 := gKz hk (by decide)
    have hv := hv hz
    subst hv
    refine r_aload_n (pc := 339) dL_law_339 rfl rfl ?_
    refine r_iconst (pc := 340) (v := 0) dL_law_340 (by decide) ?_
    refine r_lald (pc := 341) dL_law_341 (gOout hF1) ?_
    refine r_iload (pc := 342) dL_law_342 rfl ?_
    refine r_i2l (pc := 344) dL_law_344 ?_
    refine r_lcmp (pc := 345) dL_law_345 ?_
    refine r_ifC_eq (pc := 346) (tgt := 351) dL_law_346 (by decide) (fun _ => ?_) (fun g => absurd ((lg_cmp_eq _ _).mpr (by rw [hU1]; unfold gUo; rw [if_pos hz]; rfl)) g)
    refine r_goto (pc := 351) (tgt := 2074) dL_law_351 (by decide) ?_
    exact r_mask [true, true, true, true, true, false, false] rfl hc1
set_option maxHeartbeats 4000000 in
set_option maxRecDepth 100000 in
theorem law_c5 {Y : gY} {L n : Nat} {xs : Nat → Int32} (hF0 : gFull Y.2.1) (hX0 : gScr Y L xs) (hn : n + 5 ≤ L) (hL : L ≤ 2560) (hnL0 : gNL Y = 7) (hRm0 : gRm Y = room_1) (hlt : (gLn Y).stackTraces = false) (hcs : (gCs Y).1 + 1 ≤ 601024 ∧ (gCs Y).2 + 6 ≤ 7293034) (m m3 : gM) (hq : gOk [1, 2] (fX5_customerOf (gSc xs n 1) (gSc xs n 2) m) (fun q => fX6_customerOf (gSc xs n 1) (gSc xs n 2) q) m3) (hc : ∀ u1 : gU, gFull u1 → AW (gYs Y u1 ((gCs Y).1 + 1) ((gCs Y).2 + 6)) cL_law RL 2074 (gLs n) [] m3) : AW Y cL_law RL 354 (gLs n) [] m := by
  obtain ⟨o, k, m2, b, q1, hk, q2, q3, hv⟩ := hq
  unfold gLs at hc ⊢
  refine r_aload_n (pc := 354) dL_law_354 rfl rfl ?_
  refine r_aload_n (pc := 355) dL_law_355 rfl rfl ?_
  refine r_iload (pc := 356) dL_law_356 rfl ?_
  refine r_iconst (pc := 358) (v := 1) dL_law_358 (by decide) ?_
  refine r_iadd (pc := 359) dL_law_359 ?_
  refine r_sld (pc := 360) (i := Int32.ofNat n + 1) hX0 dL_law_360 (gVin (c := 1) (by omega) hL) ?_
  refine r_aload_n (pc := 361) dL_law_361 rfl rfl ?_
  refine r_iload (pc := 362) dL_law_362 rfl ?_
  refine r_iconst (pc := 364) (v := 2) dL_law_364 (by decide) ?_
  refine r_iadd (pc := 365) dL_law_365 ?_
  refine r_sld (pc := 366) (i := Int32.ofNat n + 2) hX0 dL_law_366 (gVin (c := 2) (by omega) hL) ?_
  refine r_aload_n (pc := 367) dL_law_367 rfl rfl ?_
  refine r_callSW (pc := 368) [.ref _, .int _, .int _, .ref _] (tL_customerOf _ hlt _ _ hF0 _ _ _ _ q1 _ hk) ⟨rfl, rfl⟩ cd_L_customerOf wL_135 nm_L_customerOf rfl (by rw [hRm0]; decide) rfl (Nat.le_of_ble_eq_true rfl) dL_law_368 (by rw [hRm0]; exact hcs) ?_
  obtain ⟨Y1, hY1⟩ : ∃ Y1, Y1 = gYs Y (gUo Y.2.1 o) ((gCs Y).1 + 1) ((gCs Y).2 + 6) := ⟨_, rfl⟩
  have hF1 : gFull Y1.2.1 := by rw [hY1, gYs_u]; exact gUo_full hF0
  have hX1 : gScr Y1 L xs := by rw [hY1]; exact gYs_X hX0
  have hnL1 : gNL Y1 = 7 := by rw [hY1, gYs_nL]; exact hnL0
  have hRm1 : gRm Y1 = room_1 := by rw [hY1, gYs_Rm]; exact hRm0
  have hU1 : Y1.2.1 = gUo Y.2.1 o := by rw [hY1, gYs_u]
  have hc1 := hc (gUo Y.2.1 o) (gUo_full hF0)
  rw [← hY1] at hc1 ⊢
  refine r_istore (pc := 371) dL_law_371 (by rw [hnL1]; decide) rfl ?_
  refine r_aload_n (pc := 373) dL_law_373 rfl rfl ?_
  refine r_aload_n (pc := 374) dL_law_374 rfl rfl ?_
  refine r_iload (pc := 375) dL_law_375 rfl ?_
  refine r_iconst (pc := 377) (v := 1) dL_law_377 (by decide) ?_
  refine r_iadd (pc := 378) dL_law_378 ?_
  refine r_sld (pc := 379) (i := Int32.ofNat n + 1) hX1 dL_law_379 (gVin (c := 1) (by omega) hL) ?_
  refine r_aload_n (pc := 380) dL_law_380 rfl rfl ?_
  refine r_iload (pc := 381) dL_law_381 rfl ?_
  refine r_iconst (pc := 383) (v := 2) dL_law_383 (by decide) ?_
  refine r_iadd (pc := 384) dL_law_384 ?_
  refine r_sld (pc := 385) (i := Int32.ofNat n + 2) hX1 dL_law_385 (gVin (c := 2) (by omega) hL) ?_
  refine r_callV (kd := 5) (pc := 386) [.int _, .int _] (tX6_customerOf _ _ _ hF1 _ _ _ _ q2) ⟨rfl, rfl⟩ cd_X6_customerOf wL_138 nm_X6_customerOf rfl (by rw [hRm1]; decide) rfl (Nat.le_of_ble_eq_true rfl) rfl (by decide) (gO5 hF1) dL_law_386 ?_
  refine r_istore (pc := 389) dL_law_389 (by rw [hnL1]; decide) rfl ?_
  refine r_aload_n (pc := 391) dL_law_391 rfl rfl ?_
  refine r_callV (kd := 5) (pc := 392) [] (tX6_thrown _ _ _ hF1 _ _ q3) ⟨rfl, rfl⟩ cd_X6_thrown wL_117 nm_X6_thrown rfl (by rw [hRm1]; decide) rfl (Nat.le_of_ble_eq_true rfl) rfl (by decide) (gO5 hF1) dL_law_392 ?_
  refine r_iload (pc := 395) dL_law_395 rfl ?_
  refine r_icmpC_eq (pc := 397) (tgt := 402) dL_law_397 (by decide) (fun _ => ?_) (fun g => absurd rfl g)
  refine r_iload (pc := 402) dL_law_402 rfl ?_
  refine r_ifC_ne (pc := 404) (tgt := 419) dL_law_404 (by decide) (fun hk0 => ?_) (fun hk0 => ?_)
  · refine r_goto (pc := 419) (tgt := 2074) dL_law_419 (by decide) ?_
    exact r_mask [true, true, true, true, true, false, false] rfl hc1
  · subst hk0
    have hz : o.2.1 = 0 := gKz hk (by decide)
    have hv := hv hz
    subst hv
    refine r_aload_n (pc := 407) dL_law_407 rfl rfl ?_
    refine r_iconst (pc := 408) (v := 0) dL_law_408 (by decide) ?_
    refine r_lald (pc := 409) dL_law_409 (gOout hF1) ?_
    refine r_iload (pc := 410) dL_law_410 rfl ?_
    refine r_i2l (pc := 412) dL_law_412 ?_
    refine r_lcmp (pc := 413) dL_law_413 ?_
    refine r_ifC_eq (pc := 414) (tgt := 419) dL_law_414 (by decide) (fun _ => ?_) (fun g => absurd ((lg_cmp_eq _ _).mpr (by rw [hU1]; unfold gUo; rw [if_pos hz]; rfl)) g)
    refine r_goto (pc := 419) (tgt := 2074) dL_law_419 (by decide) ?_
    exact r_mask [true, true, true, true, true, false, false] rfl hc1
set_option maxHeartbeats 4000000 in
set_option maxRecDepth 100000 in
theorem law_c6 {Y : gY} {L n : Nat} {xs : Nat → Int32} (hF0 : gFull Y.2.1) (hX0 : gScr Y L xs) (hn : n + 5 ≤ L) (hL : L ≤ 2560) (hnL0 : gNL Y = 7) (hRm0 : gRm Y = room_1) (hlt : (gLn Y).stackTraces = false) (hcs : (gCs Y).1 + 1 ≤ 601024 ∧ (gCs Y).2 + 6 ≤ 7293034) (m m3 : gM) (hq : gOk [1] (fX5_ordered (gSc xs n 1) (gSc xs n 2) m) (fun q => fX6_ordered (gSc xs n 1) (gSc xs n 2) q) m3) (hc : ∀ u1 : gU, gFull u1 → AW (gYs Y u1 ((gCs Y).1 + 1) ((gCs Y).2 + 6)) cL_law RL 2074 (gLs n) [] m3) : AW Y cL_law RL 422 (gLs n) [] m := by
  obtain ⟨o, k, m2, b, q1, hk, q2, q3, hv⟩ := hq
  unfold gLs at hc ⊢
  refine r_aload_n (pc := 422) dL_law_422 rfl rfl ?_
  refine r_aload_n (pc := 423) dL_law_423 rfl rfl ?_
  refine r_iload (pc := 424) dL_law_424 rfl ?_
  refine r_iconst (pc := 426) (v := 1) dL_law_426 (by decide) ?_
  refine r_iadd (pc := 427) dL_law_427 ?_
  refine r_sld (pc := 428) (i := Int32.ofNat n + 1) hX0 dL_law_428 (gVin (c := 1) (by omega) hL) ?_
  refine r_aload_n (pc := 429) dL_law_429 rfl rfl ?_
  refine r_iload (pc := 430) dL_law_430 rfl ?_
  refine r_iconst (pc := 432) (v := 2) dL_law_432 (by decide) ?_
  refine r_iadd (pc := 433) dL_law_433 ?_
  refine r_sld (pc := 434) (i := Int32.ofNat n + 2) hX0 dL_law_434 (gVin (c := 2) (by omega) hL) ?_
  refine r_aload_n (pc := 435) dL_law_435 rfl rfl ?_
  refine r_callSW (pc := 436) [.ref _, .int _, .int _, .ref _] (tL_ordered _ hlt _ _ hF0 _ _ _ _ q1 _ hk) ⟨rfl, rfl⟩ cd_L_ordered wL_139 nm_L_ordered rfl (by rw [hRm0]; decide) rfl (Nat.le_of_ble_eq_true rfl) dL_law_436 (by rw [hRm0]; exact hcs) ?_
  obtain ⟨Y1, hY1⟩ : ∃ Y1, Y1 = gYs Y (gUo Y.2.1 o) ((gCs Y).1 + 1) ((gCs Y).2 + 6) := ⟨_, rfl⟩
  have hF1 : gFull Y1.2.1 := by rw [hY1, gYs_u]; exact gUo_full hF0
  have hX1 : gScr Y1 L xs := by rw [hY1]; exact gYs_X hX0
  have hnL1 : gNL Y1 = 7 := by rw [hY1, gYs_nL]; exact hnL0
  have hRm1 : gRm Y1 = room_1 := by rw [hY1, gYs_Rm]; exact hRm0
  have hU1 : Y1.2.1 = gUo Y.2.1 o := by rw [hY1, gYs_u]
  have hc1 := hc (gUo Y.2.1 o) (gUo_full hF0)
  rw [← hY1] at hc1 ⊢
  refine r_istore (pc := 439) dL_law_439 (by rw [hnL1]; decide) rfl ?_
  refine r_aload_n (pc := 441) dL_law_441 rfl rfl ?_
  refine r_aload_n (pc := 442) dL_law_442 rfl rfl ?_
  refine r_iload (pc := 443) dL_law_443 rfl ?_
  refine r_iconst (pc := 445) (v := 1) dL_law_445 (by decide) ?_
  refine r_iadd (pc := 446) dL_law_446 ?_
  refine r_sld (pc := 447) (i := Int32.ofNat n + 1) hX1 dL_law_447 (gVin (c := 1) (by omega) hL) ?_
  refine r_aload_n (pc := 448) dL_law_448 rfl rfl ?_
  refine r_iload (pc := 449) dL_law_449 rfl ?_
  refine r_iconst (pc := 451) (v := 2) dL_law_451 (by decide) ?_
  refine r_iadd (pc := 452) dL_law_452 ?_
  refine r_sld (pc := 453) (i := Int32.ofNat n + 2) hX1 dL_law_453 (gVin (c := 2) (by omega) hL) ?_
  refine r_callV (kd := 5) (pc := 454) [.int _, .int _] (tX6_ordered _ _ _ hF1 _ _ _ _ q2) ⟨rfl, rfl⟩ cd_X6_ordered wL_141 nm_X6_ordered rfl (by rw [hRm1]; decide) rfl (Nat.le_of_ble_eq_true rfl) rfl (by decide) (gO5 hF1) dL_law_454 ?_
  refine r_istore (pc := 457) dL_law_457 (by rw [hnL1]; decide) rfl ?_
  refine r_aload_n (pc := 459) dL_law_459 rfl rfl ?_
  refine r_callV (kd := 5) (pc := 460) [] (tX6_thrown _ _ _ hF1 _ _ q3) ⟨rfl, rfl⟩ cd_X6_thrown wL_117 nm_X6_thrown rfl (by rw [hRm1]; decide) rfl (Nat.le_of_ble_eq_true rfl) rfl (by decide) (gO5 hF1) dL_law_460 ?_
  refine r_iload (pc := 463) dL_law_463 rfl ?_
  refine r_icmpC_eq (pc := 465) (tgt := 470) dL_law_465 (by decide) (fun _ => ?_) (fun g => absurd rfl g)
  refine r_iload (pc := 470) dL_law_470 rfl ?_
  refine r_ifC_ne (pc := 472) (tgt := 487) dL_law_472 (by decide) (fun hk0 => ?_) (fun hk0 => ?_)
  · refine r_goto (pc := 487) (tgt := 2074) dL_law_487 (by decide) ?_
    exact r_mask [true, true, true, true, true, false, false] rfl hc1
  · subst hk0
    have hz : o.2.1 = 0 := gKz hk (by decide)
    have hv := hv hz
    subst hv
    refine r_aload_n (pc := 475) dL_law_475 rfl rfl ?_
    refine r_iconst (pc := 476) (v := 0) dL_law_476 (by decide) ?_
    refine r_lald (pc := 477) dL_law_477 (gOout hF1) ?_
    refine r_iload (pc := 478) dL_law_478 rfl ?_
    refine r_i2l (pc := 480) dL_law_480 ?_
    refine r_lcmp (pc := 481) dL_law_481 ?_
    refine r_ifC_eq (pc := 482) (tgt := 487) dL_law_482 (by decide) (fun _ => ?_) (fun g => absurd ((lg_cmp_eq _ _).mpr (by rw [hU1]; unfold gUo; rw [if_pos hz]; rfl)) g)
    refine r_goto (pc := 487) (tgt := 2074) dL_law_487 (by decide) ?_
    exact r_mask [true, true, true, true, true, false, false] rfl hc1
set_option maxHeartbeats 4000000 in
set_option maxRecDepth 100000 in
theorem law_c7 {Y : gY} {L n : Nat} {xs : Nat → Int32} (hF0 : gFull Y.2.1) (hX0 : gScr Y L xs) (hn : n + 5 ≤ L) (hL : L ≤ 2560) (hnL0 : gNL Y = 7) (hRm0 : gRm Y = room_1) (hlt : (gLn Y).stackTraces = false) (hcs : (gCs Y).1 + 1 ≤ 601024 ∧ (gCs Y).2 + 6 ≤ 7293034) (m m3 : gM) (hq : gOk [1, 2] (fX5_away (gSc xs n 1) (gSc xs n 2) (gSc xs n 3) m) (fun q => fX6_away (gSc xs n 1) (gSc xs n 2) (gSc xs n 3) q) m3) (hc : ∀ u1 : gU, gFull u1 → AW (gYs Y u1 ((gCs Y).1 + 1) ((gCs Y).2 + 6)) cL_law RL 2074 (gLs n) [] m3) : AW Y cL_law RL 490 (gLs n) [] m := by
  obtain ⟨o, k, m2, b, q1, hk, q2, q3, hv⟩ := hq
  unfold gLs at hc ⊢
  refine r_aload_n (pc := 490) dL_law_490 rfl rfl ?_
  refine r_aload_n (pc := 491) dL_law_491 rfl rfl ?_
  refine r_iload (pc := 492) dL_law_492 rfl ?_
  refine r_iconst (pc := 494) (v := 1) dL_law_494 (by decide) ?_
  refine r_iadd (pc := 495) dL_law_495 ?_
  refine r_sld (pc := 496) (i := Int32.ofNat n + 1) hX0 dL_law_496 (gVin (c := 1) (by omega) hL) ?_
  refine r_aload_n (pc := 497) dL_law_497 rfl rfl ?_
  refine r_iload (pc := 498) dL_law_498 rfl ?_
  refine r_iconst (pc := 500) (v := 2) dL_law_500 (by decide) ?_
  refine r_iadd (pc := 501) dL_law_501 ?_
  refine r_sld (pc := 502) (i := Int32.ofNat n + 2) hX0 dL_law_502 (gVin (c := 2) (by omega) hL) ?_
  refine r_aload_n (pc := 503) dL_law_503 rfl rfl ?_
  refine r_iload (pc := 504) dL_law_504 rfl ?_
  refine r_iconst (pc := 506) (v := 3) dL_law_506 (by decide) ?_
  refine r_iadd (pc := 507) dL_law_507 ?_
  refine r_sld (pc := 508) (i := Int32.ofNat n + 3) hX0 dL_law_508 (gVin (c := 3) (by omega) hL) ?_
  refine r_aload_n (pc := 509) dL_law_509 rfl rfl ?_
  refine r_callSW (pc := 510) [.ref _, .int _, .int _, .int _, .ref _] (tL_away _ hlt _ _ hF0 _ _ _ _ _ q1 _ hk) ⟨rfl, rfl⟩ cd_L_away wL_142 nm_L_away rfl (by rw [hRm0]; decide) rfl (Nat.le_of_ble_eq_true rfl) dL_law_510 (by rw [hRm0]; exact hcs) ?_
  obtain ⟨Y1, hY1⟩ : ∃ Y1, Y1 = gYs Y (gUo Y.2.1 o) ((gCs Y).1 + 1) ((gCs Y).2 + 6) := ⟨_, rfl⟩
  have hF1 : gFull Y1.2.1 := by rw [hY1, gYs_u]; exact gUo_full hF0
  have hX1 : gScr Y1 L xs := by rw [hY1]; exact gYs_X hX0
  have hnL1 : gNL Y1 = 7 := by rw [hY1, gYs_nL]; exact hnL0
  have hRm1 : gRm Y1 = room_1 := by rw [hY1, gYs_Rm]; exact hRm0
  have hU1 : Y1.2.1 = gUo Y.2.1 o := by rw [hY1, gYs_u]
  have hc1 := hc (gUo Y.2.1 o) (gUo_full hF0)
  rw [← hY1] at hc1 ⊢
  refine r_istore (pc := 513) dL_law_513 (by rw [hnL1]; decide) rfl ?_
  refine r_aload_n (pc := 515) dL_law_515 rfl rfl ?_
  refine r_aload_n (pc := 516) dL_law_516 rfl rfl ?_
  refine r_iload (pc := 517) dL_law_517 rfl ?_
  refine r_iconst (pc := 519) (v := 1) dL_law_519 (by decide) ?_
  refine r_iadd (pc := 520) dL_law_520 ?_
  refine r_sld (pc := 521) (i := Int32.ofNat n + 1) hX1 dL_law_521 (gVin (c := 1) (by omega) hL) ?_
  refine r_aload_n (pc := 522) dL_law_522 rfl rfl ?_
  refine r_iload (pc := 523) dL_law_523 rfl ?_
  refine r_iconst (pc := 525) (v := 2) dL_law_525 (by decide) ?_
  refine r_iadd (pc := 526) dL_law_526 ?_
  refine r_sld (pc := 527) (i := Int32.ofNat n + 2) hX1 dL_law_527 (gVin (c := 2) (by omega) hL) ?_
  refine r_aload_n (pc := 528) dL_law_528 rfl rfl ?_
  refine r_iload (pc := 529) dL_law_529 rfl ?_
  refine r_iconst (pc := 531) (v := 3) dL_law_531 (by decide) ?_
  refine r_iadd (pc := 532) dL_law_532 ?_
  refine r_sld (pc := 533) (i := Int32.ofNat n + 3) hX1 dL_law_533 (gVin (c := 3) (by omega) hL) ?_
  refine r_callV (kd := 5) (pc := 534) [.int _, .int _, .int _] (tX6_away _ _ _ hF1 _ _ _ _ _ q2) ⟨rfl, rfl⟩ cd_X6_away wL_145 nm_X6_away rfl (by rw [hRm1]; decide) rfl (Nat.le_of_ble_eq_true rfl) rfl (by decide) (gO5 hF1) dL_law_534 ?_
  refine r_istore (pc := 537) dL_law_537 (by rw [hnL1]; decide) rfl ?_
  refine r_aload_n (pc := 539) dL_law_539 rfl rfl ?_
  refine r_callV (kd := 5) (pc := 540) [] (tX6_thrown _ _ _ hF1 _ _ q3) ⟨rfl, rfl⟩ cd_X6_thrown wL_117 nm_X6_thrown rfl (by rw [hRm1]; decide) rfl (Nat.le_of_ble_eq_true rfl) rfl (by decide) (gO5 hF1) dL_law_540 ?_
  refine r_iload (pc := 543) dL_law_543 rfl ?_
  refine r_icmpC_eq (pc := 545) (tgt := 550) dL_law_545 (by decide) (fun _ => ?_) (fun g => absurd rfl g)
  refine r_iload (pc := 550) dL_law_550 rfl ?_
  refine r_ifC_ne (pc := 552) (tgt := 567) dL_law_552 (by decide) (fun hk0 => ?_) (fun hk0 => ?_)
  · refine r_goto (pc := 567) (tgt := 2074) dL_law_567 (by decide) ?_
    exact r_mask [true, true, true, true, true, false, false] rfl hc1
  · subst hk0
    have hz : o.2.1 = 0 := gKz hk (by decide)
    have hv := hv hz
    subst hv
    refine r_aload_n (pc := 555) dL_law_555 rfl rfl ?_
    refine r_iconst (pc := 556) (v := 0) dL_law_556 (by decide) ?_
    refine r_lald (pc := 557) dL_law_557 (gOout hF1) ?_
    refine r_iload (pc := 558) dL_law_558 rfl ?_
    refine r_i2l (pc := 560) dL_law_560 ?_
    refine r_lcmp (pc := 561) dL_law_561 ?_
    refine r_ifC_eq (pc := 562) (tgt := 567) dL_law_562 (by decide) (fun _ => ?_) (fun g => absurd ((lg_cmp_eq _ _).mpr (by rw [hU1]; unfold gUo; rw [if_pos hz]; rfl)) g)
    refine r_goto (pc := 567) (tgt := 2074) dL_law_567 (by decide) ?_
    exact r_mask [true, true, true, true, true, false, false] rfl hc1
set_option maxHeartbeats 4000000 in
set_option maxRecDepth 100000 in
theorem law_c8 {Y : gY} {L n : Nat} {xs : Nat → Int32} (hF0 : gFull Y.2.1) (hX0 : gScr Y L xs) (hn : n + 5 ≤ L) (hL : L ≤ 2560) (hnL0 : gNL Y = 7) (hRm0 : gRm Y = room_1) (hlt : (gLn Y).stackTraces = false) (hcs : (gCs Y).1 + 1 ≤ 601024 ∧ (gCs Y).2 + 6 ≤ 7293034) (m m3 : gM) (hq : gOk [1] (fX5_isClosed (gSc xs n 1) (gSc xs n 2) m) (fun q => fX6_isClosed (gSc xs n 1) (gSc xs n 2) q) m3) (hc : ∀ u1 : gU, gFull u1 → AW (gYs Y u1 ((gCs Y).1 + 1) ((gCs Y).2 + 6)) cL_law RL 2074 (gLs n) [] m3) : AW Y cL_law RL 570 (gLs n) [] m := by
  obtain ⟨o, k, m2, b, q1, hk, q2, q3, hv⟩ := hq
  unfold gLs at hc ⊢
  refine r_aload_n (pc := 570) dL_law_570 rfl rfl ?_
  refine r_aload_n (pc := 571) dL_law_571 rfl rfl ?_
  refine r_iload (pc := 572) dL_law_572 rfl ?_
  refine r_iconst (pc := 574) (v := 1) dL_law_574 (by decide) ?_
  refine r_iadd (pc := 575) dL_law_575 ?_
  refine r_sld (pc := 576) (i := Int32.ofNat n + 1) hX0 dL_law_576 (gVin (c := 1) (by omega) hL) ?_
  refine r_aload_n (pc := 577) dL_law_577 rfl rfl ?_
  refine r_iload (pc := 578) dL_law_578 rfl ?_
  refine r_iconst (pc := 580) (v := 2) dL_law_580 (by decide) ?_
  refine r_iadd (pc := 581) dL_law_581 ?_
  refine r_sld (pc := 582) (i := Int32.ofNat n + 2) hX0 dL_law_582 (gVin (c := 2) (by omega) hL) ?_
  refine r_aload_n (pc := 583) dL_law_583 rfl rfl ?_
  refine r_callSW (pc := 584) [.ref _, .int _, .int _, .ref _] (tL_isClosed _ hlt _ _ hF0 _ _ _ _ q1 _ hk) ⟨rfl, rfl⟩ cd_L_isClosed wL_146 nm_L_isClosed rfl (by rw [hRm0]; decide) rfl (Nat.le_of_ble_eq_true rfl) dL_law_584 (by rw [hRm0]; exact hcs) ?_
  obtain ⟨Y1, hY1⟩ : ∃ Y1, Y1 = gYs Y (gUo Y.2.1 o) ((gCs Y).1 + 1) ((gCs Y).2 + 6) := ⟨_, rfl⟩
  have hF1 : gFull Y1.2.1 := by rw [hY1, gYs_u]; exact gUo_full hF0
  have hX1 : gScr Y1 L xs := by rw [hY1]; exact gYs_X hX0
  have hnL1 : gNL Y1 = 7 := by rw [hY1, gYs_nL]; exact hnL0
  have hRm1 : gRm Y1 = room_1 := by rw [hY1, gYs_Rm]; exact hRm0
  have hU1 : Y1.2.1 = gUo Y.2.1 o := by rw [hY1, gYs_u]
  have hc1 := hc (gUo Y.2.1 o) (gUo_full hF0)
  rw [← hY1] at hc1 ⊢
  refine r_istore (pc := 587) dL_law_587 (by rw [hnL1]; decide) rfl ?_
  refine r_aload_n (pc := 589) dL_law_589 rfl rfl ?_
  refine r_aload_n (pc := 590) dL_law_590 rfl rfl ?_
  refine r_iload (pc := 591) dL_law_591 rfl ?_
  refine r_iconst (pc := 593) (v := 1) dL_law_593 (by decide) ?_
  refine r_iadd (pc := 594) dL_law_594 ?_
  refine r_sld (pc := 595) (i := Int32.ofNat n + 1) hX1 dL_law_595 (gVin (c := 1) (by omega) hL) ?_
  refine r_aload_n (pc := 596) dL_law_596 rfl rfl ?_
  refine r_iload (pc := 597) dL_law_597 rfl ?_
  refine r_iconst (pc := 599) (v := 2) dL_law_599 (by decide) ?_
  refine r_iadd (pc := 600) dL_law_600 ?_
  refine r_sld (pc := 601) (i := Int32.ofNat n + 2) hX1 dL_law_601 (gVin (c := 2) (by omega) hL) ?_
  refine r_callV (kd := 5) (pc := 602) [.int _, .int _] (tX6_isClosed _ _ _ hF1 _ _ _ _ q2) ⟨rfl, rfl⟩ cd_X6_isClosed wL_148 nm_X6_isClosed rfl (by rw [hRm1]; decide) rfl (Nat.le_of_ble_eq_true rfl) rfl (by decide) (gO5 hF1) dL_law_602 ?_
  refine r_istore (pc := 605) dL_law_605 (by rw [hnL1]; decide) rfl ?_
  refine r_aload_n (pc := 607) dL_law_607 rfl rfl ?_
  refine r_callV (kd := 5) (pc := 608) [] (tX6_thrown _ _ _ hF1 _ _ q3) ⟨rfl, rfl⟩ cd_X6_thrown wL_117 nm_X6_thrown rfl (by rw [hRm1]; decide) rfl (Nat.le_of_ble_eq_true rfl) rfl (by decide) (gO5 hF1) dL_law_608 ?_
  refine r_iload (pc := 611) dL_law_611 rfl ?_
  refine r_icmpC_eq (pc := 613) (tgt := 618) dL_law_613 (by decide) (fun _ => ?_) (fun g => absurd rfl g)
  refine r_iload (pc := 618) dL_law_618 rfl ?_
  refine r_ifC_ne (pc := 620) (tgt := 635) dL_law_620 (by decide) (fun hk0 => ?_) (fun hk0 => ?_)
  · refine r_goto (pc := 635) (tgt := 2074) dL_law_635 (by decide) ?_
    exact r_mask [true, true, true, true, true, false, false] rfl hc1
  · subst hk0
    have hz : o.2.1 = 0 := gKz hk (by decide)
    have hv := hv hz
    subst hv
    refine r_aload_n (pc := 623) dL_law_623 rfl rfl ?_
    refine r_iconst (pc := 624) (v := 0) dL_law_624 (by decide) ?_
    refine r_lald (pc := 625) dL_law_625 (gOout hF1) ?_
    refine r_iload (pc := 626) dL_law_626 rfl ?_
    refine r_i2l (pc := 628) dL_law_628 ?_
    refine r_lcmp (pc := 629) dL_law_629 ?_
    refine r_ifC_eq (pc := 630) (tgt := 635) dL_law_630 (by decide) (fun _ => ?_) (fun g => absurd ((lg_cmp_eq _ _).mpr (by rw [hU1]; unfold gUo; rw [if_pos hz]; rfl)) g)
    refine r_goto (pc := 635) (tgt := 2074) dL_law_635 (by decide) ?_
    exact r_mask [true, true, true, true, true, false, false] rfl hc1
set_option maxHeartbeats 4000000 in
set_option maxRecDepth 100000 in
theorem law_c9 {Y : gY} {L n : Nat} {xs : Nat → Int32} (hF0 : gFull Y.2.1) (hX0 : gScr Y L xs) (hn : n + 5 ≤ L) (hL : L ≤ 2560) (hnL0 : gNL Y = 7) (hRm0 : gRm Y = room_1) (hlt : (gLn Y).stackTraces = false) (hcs : (gCs Y).1 + 1 ≤ 601024 ∧ (gCs Y).2 + 6 ≤ 7293034) (m m3 : gM) (hq : gOk [1] (fX5_round (gSc xs n 1) m) (fun q => fX6_round (gSc xs n 1) q) m3) (hc : ∀ u1 : gU, gFull u1 → AW (gYs Y u1 ((gCs Y).1 + 1) ((gCs Y).2 + 6)) cL_law RL 2074 (gLs n) [] m3) : AW Y cL_law RL 638 (gLs n) [] m := by
  obtain ⟨o, k, m2, b, q1, hk, q2, q3, hv⟩ := hq
  unfold gLs at hc ⊢
  refine r_aload_n (pc := 638) dL_law_638 rfl rfl ?_
  refine r_aload_n (pc := 639) dL_law_639 rfl rfl ?_
  refine r_iload (pc := 640) dL_law_640 rfl ?_
  refine r_iconst (pc := 642) (v := 1) dL_law_642 (by decide) ?_
  refine r_iadd (pc := 643) dL_law_643 ?_
  refine r_sld (pc := 644) (i := Int32.ofNat n + 1) hX0 dL_law_644 (gVin (c := 1) (by omega) hL) ?_
  refine r_aload_n (pc := 645) dL_law_645 rfl rfl ?_
  refine r_callSW (pc := 646) [.ref _, .int _, .ref _] (tL_round _ hlt _ _ hF0 _ _ _ q1 _ hk) ⟨rfl, rfl⟩ cd_L_round wL_149 nm_L_round rfl (by rw [hRm0]; decide) rfl (Nat.le_of_ble_eq_true rfl) dL_law_646 (by rw [hRm0]; exact hcs) ?_
  obtain ⟨Y1, hY1⟩ : ∃ Y1, Y1 = gYs Y (gUo Y.2.1 o) ((gCs Y).1 + 1) ((gCs Y).2 + 6) := ⟨_, rfl⟩
  have hF1 : gFull Y1.2.1 := by rw [hY1, gYs_u]; exact gUo_full hF0
  have hX1 : gScr Y1 L xs := by rw [hY1]; exact gYs_X hX0
  have hnL1 : gNL Y1 = 7 := by rw [hY1, gYs_nL]; exact hnL0
  have hRm1 : gRm Y1 = room_1 := by rw [hY1, gYs_Rm]; exact hRm0
  have hU1 : Y1.2.1 = gUo Y.2.1 o := by rw [hY1, gYs_u]
  have hc1 := hc (gUo Y.2.1 o) (gUo_full hF0)
  rw [← hY1] at hc1 ⊢
  refine r_istore (pc := 649) dL_law_649 (by rw [hnL1]; decide) rfl ?_
  refine r_aload_n (pc := 651) dL_law_651 rfl rfl ?_
  refine r_aload_n (pc := 652) dL_law_652 rfl rfl ?_
  refine r_iload (pc := 653) dL_law_653 rfl ?_
  refine r_iconst (pc := 655) (v := 1) dL_law_655 (by decide) ?_
  refine r_iadd (pc := 656) dL_law_656 ?_
  refine r_sld (pc := 657) (i := Int32.ofNat n + 1) hX1 dL_law_657 (gVin (c := 1) (by omega) hL) ?_
  refine r_callV (kd := 5) (pc := 658) [.int _] (tX6_round _ _ _ hF1 _ _ _ q2) ⟨rfl, rfl⟩ cd_X6_round wL_151 nm_X6_round rfl (by rw [hRm1]; decide) rfl (Nat.le_of_ble_eq_true rfl) rfl (by decide) (gO5 hF1) dL_law_658 ?_
  refine r_istore (pc := 661) dL_law_661 (by rw [hnL1]; decide) rfl ?_
  refine r_aload_n (pc := 663) dL_law_663 rfl rfl ?_
  refine r_callV (kd := 5) (pc := 664) [] (tX6_thrown _ _ _ hF1 _ _ q3) ⟨rfl, rfl⟩ cd_X6_thrown wL_117 nm_X6_thrown rfl (by rw [hRm1]; decide) rfl (Nat.le_of_ble_eq_true rfl) rfl (by decide) (gO5 hF1) dL_law_664 ?_
  refine r_iload (pc := 667) dL_law_667 rfl ?_
  refine r_icmpC_eq (pc := 669) (tgt := 674) dL_law_669 (by decide) (fun _ => ?_) (fun g => absurd rfl g)
  refine r_iload (pc := 674) dL_law_674 rfl ?_
  refine r_ifC_ne (pc := 676) (tgt := 691) dL_law_676 (by decide) (fun hk0 => ?_) (fun hk0 => ?_)
  · refine r_goto (pc := 691) (tgt := 2074) dL_law_691 (by decide) ?_
    exact r_mask [true, true, true, true, true, false, false] rfl hc1
  · subst hk0
    have hz : o.2.1 = 0 := gKz hk (by decide)
    have hv := hv hz
    subst hv
    refine r_aload_n (pc := 679) dL_law_679 rfl rfl ?_
    refine r_iconst (pc := 680) (v := 0) dL_law_680 (by decide) ?_
    refine r_lald (pc := 681) dL_law_681 (gOout hF1) ?_
    refine r_iload (pc := 682) dL_law_682 rfl ?_
    refine r_i2l (pc := 684) dL_law_684 ?_
    refine r_lcmp (pc := 685) dL_law_685 ?_
    refine r_ifC_eq (pc := 686) (tgt := 691) dL_law_686 (by decide) (fun _ => ?_) (fun g => absurd ((lg_cmp_eq _ _).mpr (by rw [hU1]; unfold gUo; rw [if_pos hz]; rfl)) g)
    refine r_goto (pc := 691) (tgt := 2074) dL_law_691 (by decide) ?_
    exact r_mask [true, true, true, true, true, false, false] rfl hc1
set_option maxHeartbeats 4000000 in
set_option maxRecDepth 100000 in
theorem law_c10 {Y : gY} {L n : Nat} {xs : Nat → Int32} (hF0 : gFull Y.2.1) (hX0 : gScr Y L xs) (hn : n + 5 ≤ L) (hL : L ≤ 2560) (hnL0 : gNL Y = 7) (hRm0 : gRm Y = room_1) (hlt : (gLn Y).stackTraces = false) (hcs : (gCs Y).1 + 1 ≤ 601024 ∧ (gCs Y).2 + 6 ≤ 7293034) (m m3 : gM) (hq : gOk [2] (fX5_setting (gSc xs n 1) m) (fun q => fX6_setting (gSc xs n 1) q) m3) (hc : ∀ u1 : gU, gFull u1 → AW (gYs Y u1 ((gCs Y).1 + 1) ((gCs Y).2 + 6)) cL_law RL 2074 (gLs n) [] m3) : AW Y cL_law RL 694 (gLs n) [] m := by
  obtain ⟨o, k, m2, b, q1, hk, q2, q3, hv⟩ := hq
  unfold gLs at hc ⊢
  refine r_aload_n (pc := 694) dL_law_694 rfl rfl ?_
  refine r_aload_n (pc := 695) dL_law_695 rfl rfl ?_
  refine r_iload (pc := 696) dL_law_696 rfl ?_
  refine r_iconst (pc := 698) (v := 1) dL_law_698 (by decide) ?_
  refine r_iadd (pc := 699) dL_law_699 ?_
  refine r_sld (pc := 700) (i := Int32.ofNat n + 1) hX0 dL_law_700 (gVin (c := 1) (by omega) hL) ?_
  refine r_aload_n (pc := 701) dL_law_701 rfl rfl ?_
  refine r_callSW (pc := 702) [.ref _, .int _, .ref _] (tL_setting _ hlt _ _ hF0 _ _ _ q1 _ hk) ⟨rfl, rfl⟩ cd_L_setting wL_152 nm_L_setting rfl (by rw [hRm0]; decide) rfl (Nat.le_of_ble_eq_true rfl) dL_law_702 (by rw [hRm0]; exact hcs) ?_
  obtain ⟨Y1, hY1⟩ : ∃ Y1, Y1 = gYs Y (gUo Y.2.1 o) ((gCs Y).1 + 1) ((gCs Y).2 + 6) := ⟨_, rfl⟩
  have hF1 : gFull Y1.2.1 := by rw [hY1, gYs_u]; exact gUo_full hF0
  have hX1 : gScr Y1 L xs := by rw [hY1]; exact gYs_X hX0
  have hnL1 : gNL Y1 = 7 := by rw [hY1, gYs_nL]; exact hnL0
  have hRm1 : gRm Y1 = room_1 := by rw [hY1, gYs_Rm]; exact hRm0
  have hU1 : Y1.2.1 = gUo Y.2.1 o := by rw [hY1, gYs_u]
  have hc1 := hc (gUo Y.2.1 o) (gUo_full hF0)
  rw [← hY1] at hc1 ⊢
  refine r_istore (pc := 705) dL_law_705 (by rw [hnL1]; decide) rfl ?_
  refine r_aload_n (pc := 707) dL_law_707 rfl rfl ?_
  refine r_aload_n (pc := 708) dL_law_708 rfl rfl ?_
  refine r_iload (pc := 709) dL_law_709 rfl ?_
  refine r_iconst (pc := 711) (v := 1) dL_law_711 (by decide) ?_
  refine r_iadd (pc := 712) dL_law_712 ?_
  refine r_sld (pc := 713) (i := Int32.ofNat n + 1) hX1 dL_law_713 (gVin (c := 1) (by omega) hL) ?_
  refine r_callV (kd := 5) (pc := 714) [.int _] (tX6_setting _ _ _ hF1 _ _ _ q2) ⟨rfl, rfl⟩ cd_X6_setting wL_154 nm_X6_setting rfl (by rw [hRm1]; decide) rfl (Nat.le_of_ble_eq_true rfl) rfl (by decide) (gO5 hF1) dL_law_714 ?_
  refine r_istore (pc := 717) dL_law_717 (by rw [hnL1]; decide) rfl ?_
  refine r_aload_n (pc := 719) dL_law_719 rfl rfl ?_
  refine r_callV (kd := 5) (pc := 720) [] (tX6_thrown _ _ _ hF1 _ _ q3) ⟨rfl, rfl⟩ cd_X6_thrown wL_117 nm_X6_thrown rfl (by rw [hRm1]; decide) rfl (Nat.le_of_ble_eq_true rfl) rfl (by decide) (gO5 hF1) dL_law_720 ?_
  refine r_iload (pc := 723) dL_law_723 rfl ?_
  refine r_icmpC_eq (pc := 725) (tgt := 730) dL_law_725 (by decide) (fun _ => ?_) (fun g => absurd rfl g)
  refine r_iload (pc := 730) dL_law_730 rfl ?_
  refine r_ifC_ne (pc := 732) (tgt := 747) dL_law_732 (by decide) (fun hk0 => ?_) (fun hk0 => ?_)
  · refine r_goto (pc := 747) (tgt := 2074) dL_law_747 (by decide) ?_
    exact r_mask [true, true, true, true, true, false, false] rfl hc1
  · subst hk0
    have hz : o.2.1 = 0 := gKz hk (by decide)
    have hv := hv hz
    subst hv
    refine r_aload_n (pc := 735) dL_law_735 rfl rfl ?_
    refine r_iconst (pc := 736) (v := 0) dL_law_736 (by decide) ?_
    refine r_lald (pc := 737) dL_law_737 (gOout hF1) ?_
    refine r_iload (pc := 738) dL_law_738 rfl ?_
    refine r_i2l (pc := 740) dL_law_740 ?_
    refine r_lcmp (pc := 741) dL_law_741 ?_
    refine r_ifC_eq (pc := 742) (tgt := 747) dL_law_742 (by decide) (fun _ => ?_) (fun g => absurd ((lg_cmp_eq _ _).mpr (by rw [hU1]; unfold gUo; rw [if_pos hz]; rfl)) g)
    refine r_goto (pc := 747) (tgt := 2074) dL_law_747 (by decide) ?_
    exact r_mask [true, true, true, true, true, false, false] rfl hc1
set_option maxHeartbeats 4000000 in
set_option maxRecDepth 100000 in
theorem law_c11 {Y : gY} {L n : Nat} {xs : Nat → Int32} (hF0 : gFull Y.2.1) (hX0 : gScr Y L xs) (hn : n + 5 ≤ L) (hL : L ≤ 2560) (hnL0 : gNL Y = 7) (hRm0 : gRm Y = room_1) (hlt : (gLn Y).stackTraces = false) (hcs : (gCs Y).1 + 1 ≤ 601024 ∧ (gCs Y).2 + 6 ≤ 7293034) (m m3 : gM) (hq : gOk [1, 2] (fX5_due (gSc xs n 1) (gSc xs n 2) (gSc xs n 3) (gSc xs n 4) m) (fun q => fX6_due (gSc xs n 1) (gSc xs n 2) (gSc xs n 3) (gSc xs n 4) q) m3) (hc : ∀ u1 : gU, gFull u1 → AW (gYs Y u1 ((gCs Y).1 + 1) ((gCs Y).2 + 6)) cL_law RL 2074 (gLs n) [] m3) : AW Y cL_law RL 750 (gLs n) [] m := by
  obtain ⟨o, k, m2, b, q1, hk, q2, q3, hv⟩ := hq
  unfold gLs at hc ⊢
  refine r_aload_n (pc := 750) dL_law_750 rfl rfl ?_
  refine r_aload_n (pc := 751) dL_law_751 rfl rfl ?_
  refine r_iload (pc := 752) dL_law_752 rfl ?_
  refine r_iconst (pc := 754) (v := 1) dL_law_754 (by decide) ?_
  refine r_iadd (pc := 755) dL_law_755 ?_
  refine r_sld (pc := 756) (i := Int32.ofNat n + 1) hX0 dL_law_756 (gVin (c := 1) (by omega) hL) ?_
  refine r_aload_n (pc := 757) dL_law_757 rfl rfl ?_
  refine r_iload (pc := 758) dL_law_758 rfl ?_
  refine r_iconst (pc := 760) (v := 2) dL_law_760 (by decide) ?_
  refine r_iadd (pc := 761) dL_law_761 ?_
  refine r_sld (pc := 762) (i := Int32.ofNat n + 2) hX0 dL_law_762 (gVin (c := 2) (by omega) hL) ?_
  refine r_aload_n (pc := 763) dL_law_763 rfl rfl ?_
  refine r_iload (pc := 764) dL_law_764 rfl ?_
  refine r_iconst (pc := 766) (v := 3) dL_law_766 (by decide) ?_
  refine r_iadd (pc := 767) dL_law_767 ?_
  refine r_sld (pc := 768) (i := Int32.ofNat n + 3) hX0 dL_law_768 (gVin (c := 3) (by omega) hL) ?_
  refine r_aload_n (pc := 769) dL_law_769 rfl rfl ?_
  refine r_iload (pc := 770) dL_law_770 rfl ?_
  refine r_iconst (pc := 772) (v := 4) dL_law_772 (by decide) ?_
  refine r_iadd (pc := 773) dL_law_773 ?_
  refine r_sld (pc := 774) (i := Int32.ofNat n + 4) hX0 dL_law_774 (gVin (c := 4) (by omega) hL) ?_
  refine r_aload_n (pc := 775) dL_law_775 rfl rfl ?_
  refine r_callSW (pc := 776) [.ref _, .int _, .int _, .int _, .int _, .ref _] (tL_due _ hlt _ _ hF0 _ _ _ _ _ _ q1 _ hk) ⟨rfl, rfl⟩ cd_L_due wL_155 nm_L_due rfl (by rw [hRm0]; decide) rfl (Nat.le_of_ble_eq_true rfl) dL_law_776 (by rw [hRm0]; exact hcs) ?_
  obtain ⟨Y1, hY1⟩ : ∃ Y1, Y1 = gYs Y (gUo Y.2.1 o) ((gCs Y).1 + 1) ((gCs Y).2 + 6) := ⟨_, rfl⟩
  have hF1 : gFull Y1.2.1 := by rw [hY1, gYs_u]; exact gUo_full hF0
  have hX1 : gScr Y1 L xs := by rw [hY1]; exact gYs_X hX0
  have hnL1 : gNL Y1 = 7 := by rw [hY1, gYs_nL]; exact hnL0
  have hRm1 : gRm Y1 = room_1 := by rw [hY1, gYs_Rm]; exact hRm0
  have hU1 : Y1.2.1 = gUo Y.2.1 o := by rw [hY1, gYs_u]
  have hc1 := hc (gUo Y.2.1 o) (gUo_full hF0)
  rw [← hY1] at hc1 ⊢
  refine r_istore (pc := 779) dL_law_779 (by rw [hnL1]; decide) rfl ?_
  refine r_aload_n (pc := 781) dL_law_781 rfl rfl ?_
  refine r_aload_n (pc := 782) dL_law_782 rfl rfl ?_
  refine r_iload (pc := 783) dL_law_783 rfl ?_
  refine r_iconst (pc := 785) (v := 1) dL_law_785 (by decide) ?_
  refine r_iadd (pc := 786) dL_law_786 ?_
  refine r_sld (pc := 787) (i := Int32.ofNat n + 1) hX1 dL_law_787 (gVin (c := 1) (by omega) hL) ?_
  refine r_aload_n (pc := 788) dL_law_788 rfl rfl ?_
  refine r_iload (pc := 789) dL_law_789 rfl ?_
  refine r_iconst (pc := 791) (v := 2) dL_law_791 (by decide) ?_
  refine r_iadd (pc := 792) dL_law_792 ?_
  refine r_sld (pc := 793) (i := Int32.ofNat n + 2) hX1 dL_law_793 (gVin (c := 2) (by omega) hL) ?_
  refine r_aload_n (pc := 794) dL_law_794 rfl rfl ?_
  refine r_iload (pc := 795) dL_law_795 rfl ?_
  refine r_iconst (pc := 797) (v := 3) dL_law_797 (by decide) ?_
  refine r_iadd (pc := 798) dL_law_798 ?_
  refine r_sld (pc := 799) (i := Int32.ofNat n + 3) hX1 dL_law_799 (gVin (c := 3) (by omega) hL) ?_
  refine r_aload_n (pc := 800) dL_law_800 rfl rfl ?_
  refine r_iload (pc := 801) dL_law_801 rfl ?_
  refine r_iconst (pc := 803) (v := 4) dL_law_803 (by decide) ?_
  refine r_iadd (pc := 804) dL_law_804 ?_
  refine r_sld (pc := 805) (i := Int32.ofNat n + 4) hX1 dL_law_805 (gVin (c := 4) (by omega) hL) ?_
  refine r_callV (kd := 5) (pc := 806) [.int _, .int _, .int _, .int _] (tX6_due _ _ _ hF1 _ _ _ _ _ _ q2) ⟨rfl, rfl⟩ cd_X6_due wL_158 nm_X6_due rfl (by rw [hRm1]; decide) rfl (Nat.le_of_ble_eq_true rfl) rfl (by decide) (gO5 hF1) dL_law_806 ?_
  refine r_istore (pc := 809) dL_law_809 (by rw [hnL1]; decide) rfl ?_
  refine r_aload_n (pc := 811) dL_law_811 rfl rfl ?_
  refine r_callV (kd := 5) (pc := 812) [] (tX6_thrown _ _ _ hF1 _ _ q3) ⟨rfl, rfl⟩ cd_X6_thrown wL_117 nm_X6_thrown rfl (by rw [hRm1]; decide) rfl (Nat.le_of_ble_eq_true rfl) rfl (by decide) (gO5 hF1) dL_law_812 ?_
  refine r_iload (pc := 815) dL_law_815 rfl ?_
  refine r_icmpC_eq (pc := 817) (tgt := 822) dL_law_817 (by decide) (fun _ => ?_) (fun g => absurd rfl g)
  refine r_iload (pc := 822) dL_law_822 rfl ?_
  refine r_ifC_ne (pc := 824) (tgt := 839) dL_law_824 (by decide) (fun hk0 => ?_) (fun hk0 => ?_)
  · refine r_goto (pc := 839) (tgt := 2074) dL_law_839 (by decide) ?_
    exact r_mask [true, true, true, true, true, false, false] rfl hc1
  · subst hk0
    have hz : o.2.1 = 0 := gKz hk (by decide)
    have hv := hv hz
    subst hv
    refine r_aload_n (pc := 827) dL_law_827 rfl rfl ?_
    refine r_iconst (pc := 828) (v := 0) dL_law_828 (by decide) ?_
    refine r_lald (pc := 829) dL_law_829 (gOout hF1) ?_
    refine r_iload (pc := 830) dL_law_830 rfl ?_
    refine r_i2l (pc := 832) dL_law_832 ?_
    refine r_lcmp (pc := 833) dL_law_833 ?_
    refine r_ifC_eq (pc := 834) (tgt := 839) dL_law_834 (by decide) (fun _ => ?_) (fun g => absurd ((lg_cmp_eq _ _).mpr (by rw [hU1]; unfold gUo; rw [if_pos hz]; rfl)) g)
    refine r_goto (pc := 839) (tgt := 2074) dL_law_839 (by decide) ?_
    exact r_mask [true, true, true, true, true, false, false] rfl hc1
set_option maxHeartbeats 4000000 in
set_option maxRecDepth 100000 in
theorem law_c12 {Y : gY} {L n : Nat} {xs : Nat → Int32} (hF0 : gFull Y.2.1) (hX0 : gScr Y L xs) (hn : n + 5 ≤ L) (hL : L ≤ 2560) (hnL0 : gNL Y = 7) (hRm0 : gRm Y = room_1) (hlt : (gLn Y).stackTraces = false) (hcs : (gCs Y).1 + 1 ≤ 601024 ∧ (gCs Y).2 + 6 ≤ 7293034) (m m3 : gM) (hq : gOk [1, 2, 3] (fX5_customer (gSc xs n 1) (gSc xs n 2) m) (fun q => fX6_customer (gSc xs n 1) (gSc xs n 2) q) m3) (hc : ∀ u1 : gU, gFull u1 → AW (gYs Y u1 ((gCs Y).1 + 1) ((gCs Y).2 + 6)) cL_law RL 2074 (gLs n) [] m3) : AW Y cL_law RL 842 (gLs n) [] m := by
  obtain ⟨o, k, m2, b, q1, hk, q2, q3, hv⟩ := hq
  unfold gLs at hc ⊢
  refine r_aload_n (pc := 842) dL_law_842 rfl rfl ?_
  refine r_aload_n (pc := 843) dL_law_843 rfl rfl ?_
  refine r_iload (pc := 844) dL_law_844 rfl ?_
  refine r_iconst (pc := 846) (v := 1) dL_law_846 (by decide) ?_
  refine r_iadd (pc := 847) dL_law_847 ?_
  refine r_sld (pc := 848) (i := Int32.ofNat n + 1) hX0 dL_law_848 (gVin (c := 1) (by omega) hL) ?_
  refine r_aload_n (pc := 849) dL_law_849 rfl rfl ?_
  refine r_iload (pc := 850) dL_law_850 rfl ?_
  refine r_iconst (pc := 852) (v := 2) dL_law_852 (by decide) ?_
  refine r_iadd (pc := 853) dL_law_853 ?_
  refine r_sld (pc := 854) (i := Int32.ofNat n + 2) hX0 dL_law_854 (gVin (c := 2) (by omega) hL) ?_
  refine r_aload_n (pc := 855) dL_law_855 rfl rfl ?_
  refine r_callSW (pc := 856) [.ref _, .int _, .int _, .ref _] (tL_customer _ hlt _ _ hF0 _ _ _ _ q1 _ hk) ⟨rfl, rfl⟩ cd_L_customer wL_159 nm_L_customer rfl (by rw [hRm0]; decide) rfl (Nat.le_of_ble_eq_true rfl) dL_law_856 (by rw [hRm0]; exact hcs) ?_
  obtain ⟨Y1, hY1⟩ : ∃ Y1, Y1 = gYs Y (gUo Y.2.1 o) ((gCs Y).1 + 1) ((gCs Y).2 + 6) := ⟨_, rfl⟩
  have hF1 : gFull Y1.2.1 := by rw [hY1, gYs_u]; exact gUo_full hF0
  have hX1 : gScr Y1 L xs := by rw [hY1]; exact gYs_X hX0
  have hnL1 : gNL Y1 = 7 := by rw [hY1, gYs_nL]; exact hnL0
  have hRm1 : gRm Y1 = room_1 := by rw [hY1, gYs_Rm]; exact hRm0
  have hU1 : Y1.2.1 = gUo Y.2.1 o := by rw [hY1, gYs_u]
  have hc1 := hc (gUo Y.2.1 o) (gUo_full hF0)
  rw [← hY1] at hc1 ⊢
  refine r_istore (pc := 859) dL_law_859 (by rw [hnL1]; decide) rfl ?_
  refine r_aload_n (pc := 861) dL_law_861 rfl rfl ?_
  refine r_aload_n (pc := 862) dL_law_862 rfl rfl ?_
  refine r_iload (pc := 863) dL_law_863 rfl ?_
  refine r_iconst (pc := 865) (v := 1) dL_law_865 (by decide) ?_
  refine r_iadd (pc := 866) dL_law_866 ?_
  refine r_sld (pc := 867) (i := Int32.ofNat n + 1) hX1 dL_law_867 (gVin (c := 1) (by omega) hL) ?_
  refine r_aload_n (pc := 868) dL_law_868 rfl rfl ?_
  refine r_iload (pc := 869) dL_law_869 rfl ?_
  refine r_iconst (pc := 871) (v := 2) dL_law_871 (by decide) ?_
  refine r_iadd (pc := 872) dL_law_872 ?_
  refine r_sld (pc := 873) (i := Int32.ofNat n + 2) hX1 dL_law_873 (gVin (c := 2) (by omega) hL) ?_
  refine r_callV (kd := 5) (pc := 874) [.int _, .int _] (tX6_customer _ _ _ hF1 _ _ _ _ q2) ⟨rfl, rfl⟩ cd_X6_customer wL_161 nm_X6_customer rfl (by rw [hRm1]; decide) rfl (Nat.le_of_ble_eq_true rfl) rfl (by decide) (gO5 hF1) dL_law_874 ?_
  refine r_istore (pc := 877) dL_law_877 (by rw [hnL1]; decide) rfl ?_
  refine r_aload_n (pc := 879) dL_law_879 rfl rfl ?_
  refine r_callV (kd := 5) (pc := 880) [] (tX6_thrown _ _ _ hF1 _ _ q3) ⟨rfl, rfl⟩ cd_X6_thrown wL_117 nm_X6_thrown rfl (by rw [hRm1]; decide) rfl (Nat.le_of_ble_eq_true rfl) rfl (by decide) (gO5 hF1) dL_law_880 ?_
  refine r_iload (pc := 883) dL_law_883 rfl ?_
  refine r_icmpC_eq (pc := 885) (tgt := 890) dL_law_885 (by decide) (fun _ => ?_) (fun g => absurd rfl g)
  refine r_iload (pc := 890) dL_law_890 rfl ?_
  refine r_ifC_ne (pc := 892) (tgt := 907) dL_law_892 (by decide) (fun hk0 => ?_) (fun hk0 => ?_)
  · refine r_goto (pc := 907) (tgt := 2074) dL_law_907 (by decide) ?_
    exact r_mask [true, true, true, true, true, false, false] rfl hc1
  · subst hk0
    have hz : o.2.1 = 0 := gKz hk (by decide)
    have hv := hv hz
    subst hv
    refine r_aload_n (pc := 895) dL_law_895 rfl rfl ?_
    refine r_iconst (pc := 896) (v := 0) dL_law_896 (by decide) ?_
    refine r_lald (pc := 897) dL_law_897 (gOout hF1) ?_
    refine r_iload (pc := 898) dL_law_898 rfl ?_
    refine r_i2l (pc := 900) dL_law_900 ?_
    refine r_lcmp (pc := 901) dL_law_901 ?_
    refine r_ifC_eq (pc := 902) (tgt := 907) dL_law_902 (by decide) (fun _ => ?_) (fun g => absurd ((lg_cmp_eq _ _).mpr (by rw [hU1]; unfold gUo; rw [if_pos hz]; rfl)) g)
    refine r_goto (pc := 907) (tgt := 2074) dL_law_907 (by decide) ?_
    exact r_mask [true, true, true, true, true, false, false] rfl hc1
set_option maxHeartbeats 4000000 in
set_option maxRecDepth 100000 in
theorem law_c13 {Y : gY} {L n : Nat} {xs : Nat → Int32} (hF0 : gFull Y.2.1) (hX0 : gScr Y L xs) (hn : n + 5 ≤ L) (hL : L ≤ 2560) (hnL0 : gNL Y = 7) (hRm0 : gRm Y = room_1) (hlt : (gLn Y).stackTraces = false) (hcs : (gCs Y).1 + 1 ≤ 601024 ∧ (gCs Y).2 + 6 ≤ 7293034) (m m3 : gM) (hq : gOk [1, 2] (fX5_change (gSc xs n 1) (gSc xs n 2) (gSc xs n 3) m) (fun q => fX6_change (gSc xs n 1) (gSc xs n 2) (gSc xs n 3) q) m3) (hc : ∀ u1 : gU, gFull u1 → AW (gYs Y u1 ((gCs Y).1 + 1) ((gCs Y).2 + 6)) cL_law RL 2074 (gLs n) [] m3) : AW Y cL_law RL 910 (gLs n) [] m := by
  obtain ⟨o, k, m2, b, q1, hk, q2, q3, hv⟩ := hq
  unfold gLs at hc ⊢
  refine r_aload_n (pc := 910) dL_law_910 rfl rfl ?_
  refine r_aload_n (pc := 911) dL_law_911 rfl rfl ?_
  refine r_iload (pc := 912) dL_law_912 rfl ?_
  refine r_iconst (pc := 914) (v := 1) dL_law_914 (by decide) ?_
  refine r_iadd (pc := 915) dL_law_915 ?_
  refine r_sld (pc := 916) (i := Int32.ofNat n + 1) hX0 dL_law_916 (gVin (c := 1) (by omega) hL) ?_
  refine r_aload_n (pc := 917) dL_law_917 rfl rfl ?_
  refine r_iload (pc := 918) dL_law_918 rfl ?_
  refine r_iconst (pc := 920) (v := 2) dL_law_920 (by decide) ?_
  refine r_iadd (pc := 921) dL_law_921 ?_
  refine r_sld (pc := 922) (i := Int32.ofNat n + 2) hX0 dL_law_922 (gVin (c := 2) (by omega) hL) ?_
  refine r_aload_n (pc := 923) dL_law_923 rfl rfl ?_
  refine r_iload (pc := 924) dL_law_924 rfl ?_
  refine r_iconst (pc := 926) (v := 3) dL_law_926 (by decide) ?_
  refine r_iadd (pc := 927) dL_law_927 ?_
  refine r_sld (pc := 928) (i := Int32.ofNat n + 3) hX0 dL_law_928 (gVin (c := 3) (by omega) hL) ?_
  refine r_aload_n (pc := 929) dL_law_929 rfl rfl ?_
  refine r_callSW (pc := 930) [.ref _, .int _, .int _, .int _, .ref _] (tL_change _ hlt _ _ hF0 _ _ _ _ _ q1 _ hk) ⟨rfl, rfl⟩ cd_L_change wL_162 nm_L_change rfl (by rw [hRm0]; decide) rfl (Nat.le_of_ble_eq_true rfl) dL_law_930 (by rw [hRm0]; exact hcs) ?_
  obtain ⟨Y1, hY1⟩ : ∃ Y1, Y1 = gYs Y (gUo Y.2.1 o) ((gCs Y).1 + 1) ((gCs Y).2 + 6) := ⟨_, rfl⟩
  have hF1 : gFull Y1.2.1 := by rw [hY1, gYs_u]; exact gUo_full hF0
  have hX1 : gScr Y1 L xs := by rw [hY1]; exact gYs_X hX0
  have hnL1 : gNL Y1 = 7 := by rw [hY1, gYs_nL]; exact hnL0
  have hRm1 : gRm Y1 = room_1 := by rw [hY1, gYs_Rm]; exact hRm0
  have hU1 : Y1.2.1 = gUo Y.2.1 o := by rw [hY1, gYs_u]
  have hc1 := hc (gUo Y.2.1 o) (gUo_full hF0)
  rw [← hY1] at hc1 ⊢
  refine r_istore (pc := 933) dL_law_933 (by rw [hnL1]; decide) rfl ?_
  refine r_aload_n (pc := 935) dL_law_935 rfl rfl ?_
  refine r_aload_n (pc := 936) dL_law_936 rfl rfl ?_
  refine r_iload (pc := 937) dL_law_937 rfl ?_
  refine r_iconst (pc := 939) (v := 1) dL_law_939 (by decide) ?_
  refine r_iadd (pc := 940) dL_law_940 ?_
  refine r_sld (pc := 941) (i := Int32.ofNat n + 1) hX1 dL_law_941 (gVin (c := 1) (by omega) hL) ?_
  refine r_aload_n (pc := 942) dL_law_942 rfl rfl ?_
  refine r_iload (pc := 943) dL_law_943 rfl ?_
  refine r_iconst (pc := 945) (v := 2) dL_law_945 (by decide) ?_
  refine r_iadd (pc := 946) dL_law_946 ?_
  refine r_sld (pc := 947) (i := Int32.ofNat n + 2) hX1 dL_law_947 (gVin (c := 2) (by omega) hL) ?_
  refine r_aload_n (pc := 948) dL_law_948 rfl rfl ?_
  refine r_iload (pc := 949) dL_law_949 rfl ?_
  refine r_iconst (pc := 951) (v := 3) dL_law_951 (by decide) ?_
  refine r_iadd (pc := 952) dL_law_952 ?_
  refine r_sld (pc := 953) (i := Int32.ofNat n + 3) hX1 dL_law_953 (gVin (c := 3) (by omega) hL) ?_
  refine r_callV (kd := 5) (pc := 954) [.int _, .int _, .int _] (tX6_change _ _ _ hF1 _ _ _ _ _ q2) ⟨rfl, rfl⟩ cd_X6_change wL_164 nm_X6_change rfl (by rw [hRm1]; decide) rfl (Nat.le_of_ble_eq_true rfl) rfl (by decide) (gO5 hF1) dL_law_954 ?_
  refine r_istore (pc := 957) dL_law_957 (by rw [hnL1]; decide) rfl ?_
  refine r_aload_n (pc := 959) dL_law_959 rfl rfl ?_
  refine r_callV (kd := 5) (pc := 960) [] (tX6_thrown _ _ _ hF1 _ _ q3) ⟨rfl, rfl⟩ cd_X6_thrown wL_117 nm_X6_thrown rfl (by rw [hRm1]; decide) rfl (Nat.le_of_ble_eq_true rfl) rfl (by decide) (gO5 hF1) dL_law_960 ?_
  refine r_iload (pc := 963) dL_law_963 rfl ?_
  refine r_icmpC_eq (pc := 965) (tgt := 970) dL_law_965 (by decide) (fun _ => ?_) (fun g => absurd rfl g)
  refine r_iload (pc := 970) dL_law_970 rfl ?_
  refine r_ifC_ne (pc := 972) (tgt := 987) dL_law_972 (by decide) (fun hk0 => ?_) (fun hk0 => ?_)
  · refine r_goto (pc := 987) (tgt := 2074) dL_law_987 (by decide) ?_
    exact r_mask [true, true, true, true, true, false, false] rfl hc1
  · subst hk0
    have hz : o.2.1 = 0 := gKz hk (by decide)
    have hv := hv hz
    subst hv
    refine r_aload_n (pc := 975) dL_law_975 rfl rfl ?_
    refine r_iconst (pc := 976) (v := 0) dL_law_976 (by decide) ?_
    refine r_lald (pc := 977) dL_law_977 (gOout hF1) ?_
    refine r_iload (pc := 978) dL_law_978 rfl ?_
    refine r_i2l (pc := 980) dL_law_980 ?_
    refine r_lcmp (pc := 981) dL_law_981 ?_
    refine r_ifC_eq (pc := 982) (tgt := 987) dL_law_982 (by decide) (fun _ => ?_) (fun g => absurd ((lg_cmp_eq _ _).mpr (by rw [hU1]; unfold gUo; rw [if_pos hz]; rfl)) g)
    refine r_goto (pc := 987) (tgt := 2074) dL_law_987 (by decide) ?_
    exact r_mask [true, true, true, true, true, false, false] rfl hc1
set_option maxHeartbeats 4000000 in
set_option maxRecDepth 100000 in
theorem law_c14 {Y : gY} {L n : Nat} {xs : Nat → Int32} (hF0 : gFull Y.2.1) (hX0 : gScr Y L xs) (hn : n + 5 ≤ L) (hL : L ≤ 2560) (hnL0 : gNL Y = 7) (hRm0 : gRm Y = room_1) (hlt : (gLn Y).stackTraces = false) (hcs : (gCs Y).1 + 1 ≤ 601024 ∧ (gCs Y).2 + 6 ≤ 7293034) (m m3 : gM) (hq : gOk [1, 2, 3] (fX5_holiday (gSc xs n 1) (gSc xs n 2) (gSc xs n 3) m) (fun q => fX6_holiday (gSc xs n 1) (gSc xs n 2) (gSc xs n 3) q) m3) (hc : ∀ u1 : gU, gFull u1 → AW (gYs Y u1 ((gCs Y).1 + 1) ((gCs Y).2 + 6)) cL_law RL 2074 (gLs n) [] m3) : AW Y cL_law RL 990 (gLs n) [] m := by
  obtain ⟨o, k, m2, b, q1, hk, q2, q3, hv⟩ := hq
  unfold gLs at hc ⊢
  refine r_aload_n (pc := 990) dL_law_990 rfl rfl ?_
  refine r_aload_n (pc := 991) dL_law_991 rfl rfl ?_
  refine r_iload (pc := 992) dL_law_992 rfl ?_
  refine r_iconst (pc := 994) (v := 1) dL_law_994 (by decide) ?_
  refine r_iadd (pc := 995) dL_law_995 ?_
  refine r_sld (pc := 996) (i := Int32.ofNat n + 1) hX0 dL_law_996 (gVin (c := 1) (by omega) hL) ?_
  refine r_aload_n (pc := 997) dL_law_997 rfl rfl ?_
  refine r_iload (pc := 998) dL_law_998 rfl ?_
  refine r_iconst (pc := 1000) (v := 2) dL_law_1000 (by decide) ?_
  refine r_iadd (pc := 1001) dL_law_1001 ?_
  refine r_sld (pc := 1002) (i := Int32.ofNat n + 2) hX0 dL_law_1002 (gVin (c := 2) (by omega) hL) ?_
  refine r_aload_n (pc := 1003) dL_law_1003 rfl rfl ?_
  refine r_iload (pc := 1004) dL_law_1004 rfl ?_
  refine r_iconst (pc := 1006) (v := 3) dL_law_1006 (by decide) ?_
  refine r_iadd (pc := 1007) dL_law_1007 ?_
  refine r_sld (pc := 1008) (i := Int32.ofNat n + 3) hX0 dL_law_1008 (gVin (c := 3) (by omega) hL) ?_
  refine r_aload_n (pc := 1009) dL_law_1009 rfl rfl ?_
  refine r_callSW (pc := 1010) [.ref _, .int _, .int _, .int _, .ref _] (tL_holiday _ hlt _ _ hF0 _ _ _ _ _ q1 _ hk) ⟨rfl, rfl⟩ cd_L_holiday wL_165 nm_L_holiday rfl (by rw [hRm0]; decide) rfl (Nat.le_of_ble_eq_true rfl) dL_law_1010 (by rw [hRm0]; exact hcs) ?_
  obtain ⟨Y1, hY1⟩ : ∃ Y1, Y1 = gYs Y (gUo Y.2.1 o) ((gCs Y).1 + 1) ((gCs Y).2 + 6) := ⟨_, rfl⟩
  have hF1 : gFull Y1.2.1 := by rw [hY1, gYs_u]; exact gUo_full hF0
  have hX1 : gScr Y1 L xs := by rw [hY1]; exact gYs_X hX0
  have hnL1 : gNL Y1 = 7 := by rw [hY1, gYs_nL]; exact hnL0
  have hRm1 : gRm Y1 = room_1 := by rw [hY1, gYs_Rm]; exact hRm0
  have hU1 : Y1.2.1 = gUo Y.2.1 o := by rw [hY1, gYs_u]
  have hc1 := hc (gUo Y.2.1 o) (gUo_full hF0)
  rw [← hY1] at hc1 ⊢
  refine r_istore (pc := 1013) dL_law_1013 (by rw [hnL1]; decide) rfl ?_
  refine r_aload_n (pc := 1015) dL_law_1015 rfl rfl ?_
  refine r_aload_n (pc := 1016) dL_law_1016 rfl rfl ?_
  refine r_iload (pc := 1017) dL_law_1017 rfl ?_
  refine r_iconst (pc := 1019) (v := 1) dL_law_1019 (by decide) ?_
  refine r_iadd (pc := 1020) dL_law_1020 ?_
  refine r_sld (pc := 1021) (i := Int32.ofNat n + 1) hX1 dL_law_1021 (gVin (c := 1) (by omega) hL) ?_
  refine r_aload_n (pc := 1022) dL_law_1022 rfl rfl ?_
  refine r_iload (pc := 1023) dL_law_1023 rfl ?_
  refine r_iconst (pc := 1025) (v := 2) dL_law_1025 (by decide) ?_
  refine r_iadd (pc := 1026) dL_law_1026 ?_
  refine r_sld (pc := 1027) (i := Int32.ofNat n + 2) hX1 dL_law_1027 (gVin (c := 2) (by omega) hL) ?_
  refine r_aload_n (pc := 1028) dL_law_1028 rfl rfl ?_
  refine r_iload (pc := 1029) dL_law_1029 rfl ?_
  refine r_iconst (pc := 1031) (v := 3) dL_law_1031 (by decide) ?_
  refine r_iadd (pc := 1032) dL_law_1032 ?_
  refine r_sld (pc := 1033) (i := Int32.ofNat n + 3) hX1 dL_law_1033 (gVin (c := 3) (by omega) hL) ?_
  refine r_callV (kd := 5) (pc := 1034) [.int _, .int _, .int _] (tX6_holiday _ _ _ hF1 _ _ _ _ _ q2) ⟨rfl, rfl⟩ cd_X6_holiday wL_167 nm_X6_holiday rfl (by rw [hRm1]; decide) rfl (Nat.le_of_ble_eq_true rfl) rfl (by decide) (gO5 hF1) dL_law_1034 ?_
  refine r_istore (pc := 1037) dL_law_1037 (by rw [hnL1]; decide) rfl ?_
  refine r_aload_n (pc := 1039) dL_law_1039 rfl rfl ?_
  refine r_callV (kd := 5) (pc := 1040) [] (tX6_thrown _ _ _ hF1 _ _ q3) ⟨rfl, rfl⟩ cd_X6_thrown wL_117 nm_X6_thrown rfl (by rw [hRm1]; decide) rfl (Nat.le_of_ble_eq_true rfl) rfl (by decide) (gO5 hF1) dL_law_1040 ?_
  refine r_iload (pc := 1043) dL_law_1043 rfl ?_
  refine r_icmpC_eq (pc := 1045) (tgt := 1050) dL_law_1045 (by decide) (fun _ => ?_) (fun g => absurd rfl g)
  refine r_iload (pc := 1050) dL_law_1050 rfl ?_
  refine r_ifC_ne (pc := 1052) (tgt := 1067) dL_law_1052 (by decide) (fun hk0 => ?_) (fun hk0 => ?_)
  · refine r_goto (pc := 1067) (tgt := 2074) dL_law_1067 (by decide) ?_
    exact r_mask [true, true, true, true, true, false, false] rfl hc1
  · subst hk0
    have hz : o.2.1 = 0 := gKz hk (by decide)
    have hv := hv hz
    subst hv
    refine r_aload_n (pc := 1055) dL_law_1055 rfl rfl ?_
    refine r_iconst (pc := 1056) (v := 0) dL_law_1056 (by decide) ?_
    refine r_lald (pc := 1057) dL_law_1057 (gOout hF1) ?_
    refine r_iload (pc := 1058) dL_law_1058 rfl ?_
    refine r_i2l (pc := 1060) dL_law_1060 ?_
    refine r_lcmp (pc := 1061) dL_law_1061 ?_
    refine r_ifC_eq (pc := 1062) (tgt := 1067) dL_law_1062 (by decide) (fun _ => ?_) (fun g => absurd ((lg_cmp_eq _ _).mpr (by rw [hU1]; unfold gUo; rw [if_pos hz]; rfl)) g)
    refine r_goto (pc := 1067) (tgt := 2074) dL_law_1067 (by decide) ?_
    exact r_mask [true, true, true, true, true, false, false] rfl hc1
set_option maxHeartbeats 4000000 in
set_option maxRecDepth 100000 in
theorem law_c15 {Y : gY} {L n : Nat} {xs : Nat → Int32} (hF0 : gFull Y.2.1) (hX0 : gScr Y L xs) (hn : n + 5 ≤ L) (hL : L ≤ 2560) (hnL0 : gNL Y = 7) (hRm0 : gRm Y = room_1) (hlt : (gLn Y).stackTraces = false) (hcs : (gCs Y).1 + 1 ≤ 601024 ∧ (gCs Y).2 + 6 ≤ 7293034) (m m3 : gM) (hq : gOk [1] (fX5_drop (gSc xs n 1) (gSc xs n 2) m) (fun q => fX6_drop (gSc xs n 1) (gSc xs n 2) q) m3) (hc : ∀ u1 : gU, gFull u1 → AW (gYs Y u1 ((gCs Y).1 + 1) ((gCs Y).2 + 6)) cL_law RL 2074 (gLs n) [] m3) : AW Y cL_law RL 1070 (gLs n) [] m := by
  obtain ⟨o, k, m2, b, q1, hk, q2, q3, hv⟩ := hq
  unfold gLs at hc ⊢
  refine r_aload_n (pc := 1070) dL_law_1070 rfl rfl ?_
  refine r_aload_n (pc := 1071) dL_law_1071 rfl rfl ?_
  refine r_iload (pc := 1072) dL_law_1072 rfl ?_
  refine r_iconst (pc := 1074) (v := 1) dL_law_1074 (by decide) ?_
  refine r_iadd (pc := 1075) dL_law_1075 ?_
  refine r_sld (pc := 1076) (i := Int32.ofNat n + 1) hX0 dL_law_1076 (gVin (c := 1) (by omega) hL) ?_
  refine r_aload_n (pc := 1077) dL_law_1077 rfl rfl ?_
  refine r_iload (pc := 1078) dL_law_1078 rfl ?_
  refine r_iconst (pc := 1080) (v := 2) dL_law_1080 (by decide) ?_
  refine r_iadd (pc := 1081) dL_law_1081 ?_
  refine r_sld (pc := 1082) (i := Int32.ofNat n + 2) hX0 dL_law_1082 (gVin (c := 2) (by omega) hL) ?_
  refine r_aload_n (pc := 1083) dL_law_1083 rfl rfl ?_
  refine r_callSW (pc := 1084) [.ref _, .int _, .int _, .ref _] (tL_drop _ hlt _ _ hF0 _ _ _ _ q1 _ hk) ⟨rfl, rfl⟩ cd_L_drop wL_168 nm_L_drop rfl (by rw [hRm0]; decide) rfl (Nat.le_of_ble_eq_true rfl) dL_law_1084 (by rw [hRm0]; exact hcs) ?_
  obtain ⟨Y1, hY1⟩ : ∃ Y1, Y1 = gYs Y (gUo Y.2.1 o) ((gCs Y).1 + 1) ((gCs Y).2 + 6) := ⟨_, rfl⟩
  have hF1 : gFull Y1.2.1 := by rw [hY1, gYs_u]; exact gUo_full hF0
  have hX1 : gScr Y1 L xs := by rw [hY1]; exact gYs_X hX0
  have hnL1 : gNL Y1 = 7 := by rw [hY1, gYs_nL]; exact hnL0
  have hRm1 : gRm Y1 = room_1 := by rw [hY1, gYs_Rm]; exact hRm0
  have hU1 : Y1.2.1 = gUo Y.2.1 o := by rw [hY1, gYs_u]
  have hc1 := hc (gUo Y.2.1 o) (gUo_full hF0)
  rw [← hY1] at hc1 ⊢
  refine r_istore (pc := 1087) dL_law_1087 (by rw [hnL1]; decide) rfl ?_
  refine r_aload_n (pc := 1089) dL_law_1089 rfl rfl ?_
  refine r_aload_n (pc := 1090) dL_law_1090 rfl rfl ?_
  refine r_iload (pc := 1091) dL_law_1091 rfl ?_
  refine r_iconst (pc := 1093) (v := 1) dL_law_1093 (by decide) ?_
  refine r_iadd (pc := 1094) dL_law_1094 ?_
  refine r_sld (pc := 1095) (i := Int32.ofNat n + 1) hX1 dL_law_1095 (gVin (c := 1) (by omega) hL) ?_
  refine r_aload_n (pc := 1096) dL_law_1096 rfl rfl ?_
  refine r_iload (pc := 1097) dL_law_1097 rfl ?_
  refine r_iconst (pc := 1099) (v := 2) dL_law_1099 (by decide) ?_
  refine r_iadd (pc := 1100) dL_law_1100 ?_
  refine r_sld (pc := 1101) (i := Int32.ofNat n + 2) hX1 dL_law_1101 (gVin (c := 2) (by omega) hL) ?_
  refine r_callV (kd := 5) (pc := 1102) [.int _, .int _] (tX6_drop _ _ _ hF1 _ _ _ _ q2) ⟨rfl, rfl⟩ cd_X6_drop wL_170 nm_X6_drop rfl (by rw [hRm1]; decide) rfl (Nat.le_of_ble_eq_true rfl) rfl (by decide) (gO5 hF1) dL_law_1102 ?_
  refine r_istore (pc := 1105) dL_law_1105 (by rw [hnL1]; decide) rfl ?_
  refine r_aload_n (pc := 1107) dL_law_1107 rfl rfl ?_
  refine r_callV (kd := 5) (pc := 1108) [] (tX6_thrown _ _ _ hF1 _ _ q3) ⟨rfl, rfl⟩ cd_X6_thrown wL_117 nm_X6_thrown rfl (by rw [hRm1]; decide) rfl (Nat.le_of_ble_eq_true rfl) rfl (by decide) (gO5 hF1) dL_law_1108 ?_
  refine r_iload (pc := 1111) dL_law_1111 rfl ?_
  refine r_icmpC_eq (pc := 1113) (tgt := 1118) dL_law_1113 (by decide) (fun _ => ?_) (fun g => absurd rfl g)
  refine r_iload (pc := 1118) dL_law_1118 rfl ?_
  refine r_ifC_ne (pc := 1120) (tgt := 1135) dL_law_1120 (by decide) (fun hk0 => ?_) (fun hk0 => ?_)
  · refine r_goto (pc := 1135) (tgt := 2074) dL_law_1135 (by decide) ?_
    exact r_mask [true, true, true, true, true, false, false] rfl hc1
  · subst hk0
    have hz : o.2.1 = 0 := gKz hk (by decide)
    have hv := hv hz
    subst hv
    refine r_aload_n (pc := 1123) dL_law_1123 rfl rfl ?_
    refine r_iconst (pc := 1124) (v := 0) dL_law_1124 (by decide) ?_
    refine r_lald (pc := 1125) dL_law_1125 (gOout hF1) ?_
    refine r_iload (pc := 1126) dL_law_1126 rfl ?_
    refine r_i2l (pc := 1128) dL_law_1128 ?_
    refine r_lcmp (pc := 1129) dL_law_1129 ?_
    refine r_ifC_eq (pc := 1130) (tgt := 1135) dL_law_1130 (by decide) (fun _ => ?_) (fun g => absurd ((lg_cmp_eq _ _).mpr (by rw [hU1]; unfold gUo; rw [if_pos hz]; rfl)) g)
    refine r_goto (pc := 1135) (tgt := 2074) dL_law_1135 (by decide) ?_
    exact r_mask [true, true, true, true, true, false, false] rfl hc1
set_option maxHeartbeats 4000000 in
set_option maxRecDepth 100000 in
theorem law_c16 {Y : gY} {L n : Nat} {xs : Nat → Int32} (hF0 : gFull Y.2.1) (hX0 : gScr Y L xs) (hn : n + 5 ≤ L) (hL : L ≤ 2560) (hnL0 : gNL Y = 7) (hRm0 : gRm Y = room_1) (hlt : (gLn Y).stackTraces = false) (hcs : (gCs Y).1 + 1 ≤ 601024 ∧ (gCs Y).2 + 6 ≤ 7293034) (m m3 : gM) (hq : gOk [1] (fX5_close (gSc xs n 1) (gSc xs n 2) (if gSc xs n 3 = 0 then 0 else 1) m) (fun q => fX6_close (gSc xs n 1) (gSc xs n 2) (if gSc xs n 3 = 0 then 0 else 1) q) m3) (hc : ∀ u1 : gU, gFull u1 → AW (gYs Y u1 ((gCs Y).1 + 1) ((gCs Y).2 + 6)) cL_law RL 2074 (gLs n) [] m3) : AW Y cL_law RL 1138 (gLs n) [] m := by
  obtain ⟨o, k, m2, b, q1, hk, q2, q3, hv⟩ := hq
  unfold gLs at hc ⊢
  by_cases hb : gSc xs n 3 = 0
  · rw [if_pos hb] at q1
    simp only [if_pos hb] at q2
    refine r_aload_n (pc := 1138) dL_law_1138 rfl rfl ?_
    refine r_aload_n (pc := 1139) dL_law_1139 rfl rfl ?_
    refine r_iload (pc := 1140) dL_law_1140 rfl ?_
    refine r_iconst (pc := 1142) (v := 1) dL_law_1142 (by decide) ?_
    refine r_iadd (pc := 1143) dL_law_1143 ?_
    refine r_sld (pc := 1144) (i := Int32.ofNat n + 1) hX0 dL_law_1144 (gVin (c := 1) (by omega) hL) ?_
    refine r_aload_n (pc := 1145) dL_law_1145 rfl rfl ?_
    refine r_iload (pc := 1146) dL_law_1146 rfl ?_
    refine r_iconst (pc := 1148) (v := 2) dL_law_1148 (by decide) ?_
    refine r_iadd (pc := 1149) dL_law_1149 ?_
    refine r_sld (pc := 1150) (i := Int32.ofNat n + 2) hX0 dL_law_1150 (gVin (c := 2) (by omega) hL) ?_
    refine r_aload_n (pc := 1151) dL_law_1151 rfl rfl ?_
    refine r_iload (pc := 1152) dL_law_1152 rfl ?_
    refine r_iconst (pc := 1154) (v := 3) dL_law_1154 (by decide) ?_
    refine r_iadd (pc := 1155) dL_law_1155 ?_
    refine r_sld (pc := 1156) (i := Int32.ofNat n + 3) hX0 dL_law_1156 (gVin (c := 3) (by omega) hL) ?_
    refine r_ifC_eq (pc := 1157) (tgt := 1164) dL_law_1157 (by decide) (fun _ => ?_) (fun g => absurd hb g)
    refine r_iconst (pc := 1164) (v := 0) dL_law_1164 (by decide) ?_
    refine r_aload_n (pc := 1165) dL_law_1165 rfl rfl ?_
    refine r_callSW (pc := 1166) [.ref _, .int _, .int _, .int _, .ref _] (tL_close _ hlt _ _ hF0 _ _ _ _ _ q1 _ hk) ⟨rfl, rfl⟩ cd_L_close wL_171 nm_L_close rfl (by rw [hRm0]; decide) rfl (Nat.le_of_ble_eq_true rfl) dL_law_1166 (by rw [hRm0]; exact hcs) ?_
    obtain ⟨Y1, hY1⟩ : ∃ Y1, Y1 = gYs Y (gUo Y.2.1 o) ((gCs Y).1 + 1) ((gCs Y).2 + 6) := ⟨_, rfl⟩
    have hF1 : gFull Y1.2.1 := by rw [hY1, gYs_u]; exact gUo_full hF0
    have hX1 : gScr Y1 L xs := by rw [hY1]; exact gYs_X hX0
    have hnL1 : gNL Y1 = 7 := by rw [hY1, gYs_nL]; exact hnL0
    have hRm1 : gRm Y1 = room_1 := by rw [hY1, gYs_Rm]; exact hRm0
    have hU1 : Y1.2.1 = gUo Y.2.1 o := by rw [hY1, gYs_u]
    have hc1 := hc (gUo Y.2.1 o) (gUo_full hF0)
    rw [← hY1] at hc1 ⊢
    refine r_istore (pc := 1169) dL_law_1169 (by rw [hnL1]; decide) rfl ?_
    refine r_aload_n (pc := 1171) dL_law_1171 rfl rfl ?_
    refine r_aload_n (pc := 1172) dL_law_1172 rfl rfl ?_
    refine r_iload (pc := 1173) dL_law_1173 rfl ?_
    refine r_iconst (pc := 1175) (v := 1) dL_law_1175 (by decide) ?_
    refine r_iadd (pc := 1176) dL_law_1176 ?_
    refine r_sld (pc := 1177) (i := Int32.ofNat n + 1) hX1 dL_law_1177 (gVin (c := 1) (by omega) hL) ?_
    refine r_aload_n (pc := 1178) dL_law_1178 rfl rfl ?_
    refine r_iload (pc := 1179) dL_law_1179 rfl ?_
    refine r_iconst (pc := 1181) (v := 2) dL_law_1181 (by decide) ?_
    refine r_iadd (pc := 1182) dL_law_1182 ?_
    refine r_sld (pc := 1183) (i := Int32.ofNat n + 2) hX1 dL_law_1183 (gVin (c := 2) (by omega) hL) ?_
    refine r_aload_n (pc := 1184) dL_law_1184 rfl rfl ?_
    refine r_iload (pc := 1185) dL_law_1185 rfl ?_
    refine r_iconst (pc := 1187) (v := 3) dL_law_1187 (by decide) ?_
    refine r_iadd (pc := 1188) dL_law_1188 ?_
    refine r_sld (pc := 1189) (i := Int32.ofNat n + 3) hX1 dL_law_1189 (gVin (c := 3) (by omega) hL) ?_
    refine r_ifC_eq (pc := 1190) (tgt := 1197) dL_law_1190 (by decide) (fun _ => ?_) (fun g => absurd hb g)
    refine r_iconst (pc := 1197) (v := 0) dL_law_1197 (by decide) ?_
    refine r_callV (kd := 5) (pc := 1198) [.int _, .int _, .int _] (tX6_close _ _ _ hF1 _ _ _ _ _ q2) ⟨rfl, rfl⟩ cd_X6_close wL_174 nm_X6_close rfl (by rw [hRm1]; decide) rfl (Nat.le_of_ble_eq_true rfl) rfl (by decide) (gO5 hF1) dL_law_1198 ?_
    refine r_istore (pc := 1201) dL_law_1201 (by rw [hnL1]; decide) rfl ?_
    refine r_aload_n (pc := 1203) dL_law_1203 rfl rfl ?_
    refine r_callV (kd := 5) (pc := 1204) [] (tX6_thrown _ _ _ hF1 _ _ q3) ⟨rfl, rfl⟩ cd_X6_thrown wL_117 nm_X6_thrown rfl (by rw [hRm1]; decide) rfl (Nat.le_of_ble_eq_true rfl) rfl (by decide) (gO5 hF1) dL_law_1204 ?_
    refine r_iload (pc := 1207) dL_law_1207 rfl ?_
    refine r_icmpC_eq (pc := 1209) (tgt := 1214) dL_law_1209 (by decide) (fun _ => ?_) (fun g => absurd rfl g)
    refine r_iload (pc := 1214) dL_law_1214 rfl ?_
    refine r_ifC_ne (pc := 1216) (tgt := 1231) dL_law_1216 (by decide) (fun hk0 => ?_) (fun hk0 => ?_)
    · refine r_goto (pc := 1231) (tgt := 2074) dL_law_1231 (by decide) ?_
      exact r_mask [true, true, true, true, true, false, false] rfl hc1
    · subst hk0
      have hz : o.2.1 = 0 := gKz hk (by decide)
      have hv := hv hz
      subst hv
      refine r_aload_n (pc := 1219) dL_law_1219 rfl rfl ?_
      refine r_iconst (pc := 1220) (v := 0) dL_law_1220 (by decide) ?_
      refine r_lald (pc := 1221) dL_law_1221 (gOout hF1) ?_
      refine r_iload (pc := 1222) dL_law_1222 rfl ?_
      refine r_i2l (pc := 1224) dL_law_1224 ?_
      refine r_lcmp (pc := 1225) dL_law_1225 ?_
      refine r_ifC_eq (pc := 1226) (tgt := 1231) dL_law_1226 (by decide) (fun _ => ?_) (fun g => absurd ((lg_cmp_eq _ _).mpr (by rw [hU1]; unfold gUo; rw [if_pos hz]; rfl)) g)
      refine r_goto (pc := 1231) (tgt := 2074) dL_law_1231 (by decide) ?_
      exact r_mask [true, true, true, true, true, false, false] rfl hc1
  · rw [if_neg hb] at q1
    simp only [if_neg hb] at q2
    refine r_aload_n (pc := 1138) dL_law_1138 rfl rfl ?_
    refine r_aload_n (pc := 1139) dL_law_1139 rfl rfl ?_
    refine r_iload (pc := 1140) dL_law_1140 rfl ?_
    refine r_iconst (pc := 1142) (v := 1) dL_law_1142 (by decide) ?_
    refine r_iadd (pc := 1143) dL_law_1143 ?_
    refine r_sld (pc := 1144) (i := Int32.ofNat n + 1) hX0 dL_law_1144 (gVin (c := 1) (by omega) hL) ?_
    refine r_aload_n (pc := 1145) dL_law_1145 rfl rfl ?_
    refine r_iload (pc := 1146) dL_law_1146 rfl ?_
    refine r_iconst (pc := 1148) (v := 2) dL_law_1148 (by decide) ?_
    refine r_iadd (pc := 1149) dL_law_1149 ?_
    refine r_sld (pc := 1150) (i := Int32.ofNat n + 2) hX0 dL_law_1150 (gVin (c := 2) (by omega) hL) ?_
    refine r_aload_n (pc := 1151) dL_law_1151 rfl rfl ?_
    refine r_iload (pc := 1152) dL_law_1152 rfl ?_
    refine r_iconst (pc := 1154) (v := 3) dL_law_1154 (by decide) ?_
    refine r_iadd (pc := 1155) dL_law_1155 ?_
    refine r_sld (pc := 1156) (i := Int32.ofNat n + 3) hX0 dL_law_1156 (gVin (c := 3) (by omega) hL) ?_
    refine r_ifC_eq (pc := 1157) (tgt := 1164) dL_law_1157 (by decide) (fun g => absurd g hb) (fun _ => ?_)
    refine r_iconst (pc := 1160) (v := 1) dL_law_1160 (by decide) ?_
    refine r_goto (pc := 1161) (tgt := 1165) dL_law_1161 (by decide) ?_
    refine r_aload_n (pc := 1165) dL_law_1165 rfl rfl ?_
    refine r_callSW (pc := 1166) [.ref _, .int _, .int _, .int _, .ref _] (tL_close _ hlt _ _ hF0 _ _ _ _ _ q1 _ hk) ⟨rfl, rfl⟩ cd_L_close wL_171 nm_L_close rfl (by rw [hRm0]; decide) rfl (Nat.le_of_ble_eq_true rfl) dL_law_1166 (by rw [hRm0]; exact hcs) ?_
    obtain ⟨Y1, hY1⟩ : ∃ Y1, Y1 = gYs Y (gUo Y.2.1 o) ((gCs Y).1 + 1) ((gCs Y).2 + 6) := ⟨_, rfl⟩
    have hF1 : gFull Y1.2.1 := by rw [hY1, gYs_u]; exact gUo_full hF0
    have hX1 : gScr Y1 L xs := by rw [hY1]; exact gYs_X hX0
    have hnL1 : gNL Y1 = 7 := by rw [hY1, gYs_nL]; exact hnL0
    have hRm1 : gRm Y1 = room_1 := by rw [hY1, gYs_Rm]; exact hRm0
    have hU1 : Y1.2.1 = gUo Y.2.1 o := by rw [hY1, gYs_u]
    have hc1 := hc (gUo Y.2.1 o) (gUo_full hF0)
    rw [← hY1] at hc1 ⊢
    refine r_istore (pc := 1169) dL_law_1169 (by rw [hnL1]; decide) rfl ?_
    refine r_aload_n (pc := 1171) dL_law_1171 rfl rfl ?_
    refine r_aload_n (pc := 1172) dL_law_1172 rfl rfl ?_
    refine r_iload (pc := 1173) dL_law_1173 rfl ?_
    refine r_iconst (pc := 1175) (v := 1) dL_law_1175 (by decide) ?_
    refine r_iadd (pc := 1176) dL_law_1176 ?_
    refine r_sld (pc := 1177) (i := Int32.ofNat n + 1) hX1 dL_law_1177 (gVin (c := 1) (by omega) hL) ?_
    refine r_aload_n (pc := 1178) dL_law_1178 rfl rfl ?_
    refine r_iload (pc := 1179) dL_law_1179 rfl ?_
    refine r_iconst (pc := 1181) (v := 2) dL_law_1181 (by decide) ?_
    refine r_iadd (pc := 1182) dL_law_1182 ?_
    refine r_sld (pc := 1183) (i := Int32.ofNat n + 2) hX1 dL_law_1183 (gVin (c := 2) (by omega) hL) ?_
    refine r_aload_n (pc := 1184) dL_law_1184 rfl rfl ?_
    refine r_iload (pc := 1185) dL_law_1185 rfl ?_
    refine r_iconst (pc := 1187) (v := 3) dL_law_1187 (by decide) ?_
    refine r_iadd (pc := 1188) dL_law_1188 ?_
    refine r_sld (pc := 1189) (i := Int32.ofNat n + 3) hX1 dL_law_1189 (gVin (c := 3) (by omega) hL) ?_
    refine r_ifC_eq (pc := 1190) (tgt := 1197) dL_law_1190 (by decide) (fun g => absurd g hb) (fun _ => ?_)
    refine r_iconst (pc := 1193) (v := 1) dL_law_1193 (by decide) ?_
    refine r_goto (pc := 1194) (tgt := 1198) dL_law_1194 (by decide) ?_
    refine r_callV (kd := 5) (pc := 1198) [.int _, .int _, .int _] (tX6_close _ _ _ hF1 _ _ _ _ _ q2) ⟨rfl, rfl⟩ cd_X6_close wL_174 nm_X6_close rfl (by rw [hRm1]; decide) rfl (Nat.le_of_ble_eq_true rfl) rfl (by decide) (gO5 hF1) dL_law_1198 ?_
    refine r_istore (pc := 1201) dL_law_1201 (by rw [hnL1]; decide) rfl ?_
    refine r_aload_n (pc := 1203) dL_law_1203 rfl rfl ?_
    refine r_callV (kd := 5) (pc := 1204) [] (tX6_thrown _ _ _ hF1 _ _ q3) ⟨rfl, rfl⟩ cd_X6_thrown wL_117 nm_X6_thrown rfl (by rw [hRm1]; decide) rfl (Nat.le_of_ble_eq_true rfl) rfl (by decide) (gO5 hF1) dL_law_1204 ?_
    refine r_iload (pc := 1207) dL_law_1207 rfl ?_
    refine r_icmpC_eq (pc := 1209) (tgt := 1214) dL_law_1209 (by decide) (fun _ => ?_) (fun g => absurd rfl g)
    refine r_iload (pc := 1214) dL_law_1214 rfl ?_
    refine r_ifC_ne (pc := 1216) (tgt := 1231) dL_law_1216 (by decide) (fun hk0 => ?_) (fun hk0 => ?_)
    · refine r_goto (pc := 1231) (tgt := 2074) dL_law_1231 (by decide) ?_
      exact r_mask [true, true, true, true, true, false, false] rfl hc1
    · subst hk0
      have hz : o.2.1 = 0 := gKz hk (by decide)
      have hv := hv hz
      subst hv
      refine r_aload_n (pc := 1219) dL_law_1219 rfl rfl ?_
      refine r_iconst (pc := 1220) (v := 0) dL_law_1220 (by decide) ?_
      refine r_lald (pc := 1221) dL_law_1221 (gOout hF1) ?_
      refine r_iload (pc := 1222) dL_law_1222 rfl ?_
      refine r_i2l (pc := 1224) dL_law_1224 ?_
      refine r_lcmp (pc := 1225) dL_law_1225 ?_
      refine r_ifC_eq (pc := 1226) (tgt := 1231) dL_law_1226 (by decide) (fun _ => ?_) (fun g => absurd ((lg_cmp_eq _ _).mpr (by rw [hU1]; unfold gUo; rw [if_pos hz]; rfl)) g)
      refine r_goto (pc := 1231) (tgt := 2074) dL_law_1231 (by decide) ?_
      exact r_mask [true, true, true, true, true, false, false] rfl hc1
set_option maxHeartbeats 4000000 in
set_option maxRecDepth 100000 in
theorem law_c17 {Y : gY} {L n : Nat} {xs : Nat → Int32} (hF0 : gFull Y.2.1) (hX0 : gScr Y L xs) (hn : n + 5 ≤ L) (hL : L ≤ 2560) (hnL0 : gNL Y = 7) (hRm0 : gRm Y = room_1) (hlt : (gLn Y).stackTraces = false) (hcs : (gCs Y).1 + 1 ≤ 601024 ∧ (gCs Y).2 + 6 ≤ 7293034) (m m3 : gM) (hq : gOk [1] (fX5_swap (gSc xs n 1) (gSc xs n 2) m) (fun q => fX6_swap (gSc xs n 1) (gSc xs n 2) q) m3) (hc : ∀ u1 : gU, gFull u1 → AW (gYs Y u1 ((gCs Y).1 + 1) ((gCs Y).2 + 6)) cL_law RL 2074 (gLs n) [] m3) : AW Y cL_law RL 1234 (gLs n) [] m := by
  obtain ⟨o, k, m2, b, q1, hk, q2, q3, hv⟩ := hq
  unfold gLs at hc ⊢
  refine r_aload_n (pc := 1234) dL_law_1234 rfl rfl ?_
  refine r_aload_n (pc := 1235) dL_law_1235 rfl rfl ?_
  refine r_iload (pc := 1236) dL_law_1236 rfl ?_
  refine r_iconst (pc := 1238) (v := 1) dL_law_1238 (by decide) ?_
  refine r_iadd (pc := 1239) dL_law_1239 ?_
  refine r_sld (pc := 1240) (i := Int32.ofNat n + 1) hX0 dL_law_1240 (gVin (c := 1) (by omega) hL) ?_
  refine r_aload_n (pc := 1241) dL_law_1241 rfl rfl ?_
  refine r_iload (pc := 1242) dL_law_1242 rfl ?_
  refine r_iconst (pc := 1244) (v := 2) dL_law_1244 (by decide) ?_
  refine r_iadd (pc := 1245) dL_law_1245 ?_
  refine r_sld (pc := 1246) (i := Int32.ofNat n + 2) hX0 dL_law_1246 (gVin (c := 2) (by omega) hL) ?_
  refine r_aload_n (pc := 1247) dL_law_1247 rfl rfl ?_
  refine r_callSW (pc := 1248) [.ref _, .int _, .int _, .ref _] (tL_swap _ hlt _ _ hF0 _ _ _ _ q1 _ hk) ⟨rfl, rfl⟩ cd_L_swap wL_175 nm_L_swap rfl (by rw [hRm0]; decide) rfl (Nat.le_of_ble_eq_true rfl) dL_law_1248 (by rw [hRm0]; exact hcs) ?_
  obtain ⟨Y1, hY1⟩ : ∃ Y1, Y1 = gYs Y (gUo Y.2.1 o) ((gCs Y).1 + 1) ((gCs Y).2 + 6) := ⟨_, rfl⟩
  have hF1 : gFull Y1.2.1 := by rw [hY1, gYs_u]; exact gUo_full hF0
  have hX1 : gScr Y1 L xs := by rw [hY1]; exact gYs_X hX0
  have hnL1 : gNL Y1 = 7 := by rw [hY1, gYs_nL]; exact hnL0
  have hRm1 : gRm Y1 = room_1 := by rw [hY1, gYs_Rm]; exact hRm0
  have hU1 : Y1.2.1 = gUo Y.2.1 o := by rw [hY1, gYs_u]
  have hc1 := hc (gUo Y.2.1 o) (gUo_full hF0)
  rw [← hY1] at hc1 ⊢
  refine r_istore (pc := 1251) dL_law_1251 (by rw [hnL1]; decide) rfl ?_
  refine r_aload_n (pc := 1253) dL_law_1253 rfl rfl ?_
  refine r_aload_n (pc := 1254) dL_law_1254 rfl rfl ?_
  refine r_iload (pc := 1255) dL_law_1255 rfl ?_
  refine r_iconst (pc := 1257) (v := 1) dL_law_1257 (by decide) ?_
  refine r_iadd (pc := 1258) dL_law_1258 ?_
  refine r_sld (pc := 1259) (i := Int32.ofNat n + 1) hX1 dL_law_1259 (gVin (c := 1) (by omega) hL) ?_
  refine r_aload_n (pc := 1260) dL_law_1260 rfl rfl ?_
  refine r_iload (pc := 1261) dL_law_1261 rfl ?_
  refine r_iconst (pc := 1263) (v := 2) dL_law_1263 (by decide) ?_
  refine r_iadd (pc := 1264) dL_law_1264 ?_
  refine r_sld (pc := 1265) (i := Int32.ofNat n + 2) hX1 dL_law_1265 (gVin (c := 2) (by omega) hL) ?_
  refine r_callV (kd := 5) (pc := 1266) [.int _, .int _] (tX6_swap _ _ _ hF1 _ _ _ _ q2) ⟨rfl, rfl⟩ cd_X6_swap wL_177 nm_X6_swap rfl (by rw [hRm1]; decide) rfl (Nat.le_of_ble_eq_true rfl) rfl (by decide) (gO5 hF1) dL_law_1266 ?_
  refine r_istore (pc := 1269) dL_law_1269 (by rw [hnL1]; decide) rfl ?_
  refine r_aload_n (pc := 1271) dL_law_1271 rfl rfl ?_
  refine r_callV (kd := 5) (pc := 1272) [] (tX6_thrown _ _ _ hF1 _ _ q3) ⟨rfl, rfl⟩ cd_X6_thrown wL_117 nm_X6_thrown rfl (by rw [hRm1]; decide) rfl (Nat.le_of_ble_eq_true rfl) rfl (by decide) (gO5 hF1) dL_law_1272 ?_
  refine r_iload (pc := 1275) dL_law_1275 rfl ?_
  refine r_icmpC_eq (pc := 1277) (tgt := 1282) dL_law_1277 (by decide) (fun _ => ?_) (fun g => absurd rfl g)
  refine r_iload (pc := 1282) dL_law_1282 rfl ?_
  refine r_ifC_ne (pc := 1284) (tgt := 1299) dL_law_1284 (by decide) (fun hk0 => ?_) (fun hk0 => ?_)
  · refine r_goto (pc := 1299) (tgt := 2074) dL_law_1299 (by decide) ?_
    exact r_mask [true, true, true, true, true, false, false] rfl hc1
  · subst hk0
    have hz : o.2.1 = 0 := gKz hk (by decide)
    have hv := hv hz
    subst hv
    refine r_aload_n (pc := 1287) dL_law_1287 rfl rfl ?_
    refine r_iconst (pc := 1288) (v := 0) dL_law_1288 (by decide) ?_
    refine r_lald (pc := 1289) dL_law_1289 (gOout hF1) ?_
    refine r_iload (pc := 1290) dL_law_1290 rfl ?_
    refine r_i2l (pc := 1292) dL_law_1292 ?_
    refine r_lcmp (pc := 1293) dL_law_1293 ?_
    refine r_ifC_eq (pc := 1294) (tgt := 1299) dL_law_1294 (by decide) (fun _ => ?_) (fun g => absurd ((lg_cmp_eq _ _).mpr (by rw [hU1]; unfold gUo; rw [if_pos hz]; rfl)) g)
    refine r_goto (pc := 1299) (tgt := 2074) dL_law_1299 (by decide) ?_
    exact r_mask [true, true, true, true, true, false, false] rfl hc1
set_option maxHeartbeats 4000000 in
set_option maxRecDepth 100000 in
theorem law_c18 {Y : gY} {L n : Nat} {xs : Nat → Int32} (hF0 : gFull Y.2.1) (hX0 : gScr Y L xs) (hn : n + 5 ≤ L) (hL : L ≤ 2560) (hnL0 : gNL Y = 7) (hRm0 : gRm Y = room_1) (hlt : (gLn Y).stackTraces = false) (hcs : (gCs Y).1 + 1 ≤ 601024 ∧ (gCs Y).2 + 6 ≤ 7293034) (m m3 : gM) (hq : gOk [2] (fX5_set (gSc xs n 1) (gSc xs n 2) m) (fun q => fX6_set (gSc xs n 1) (gSc xs n 2) q) m3) (hc : ∀ u1 : gU, gFull u1 → AW (gYs Y u1 ((gCs Y).1 + 1) ((gCs Y).2 + 6)) cL_law RL 2074 (gLs n) [] m3) : AW Y cL_law RL 1302 (gLs n) [] m := by
  obtain ⟨o, k, m2, b, q1, hk, q2, q3, hv⟩ := hq
  unfold gLs at hc ⊢
  refine r_aload_n (pc := 1302) dL_law_1302 rfl rfl ?_
  refine r_aload_n (pc := 1303) dL_law_1303 rfl rfl ?_
  refine r_iload (pc := 1304) dL_law_1304 rfl ?_
  refine r_iconst (pc := 1306) (v := 1) dL_law_1306 (by decide) ?_
  refine r_iadd (pc := 1307) dL_law_1307 ?_
  refine r_sld (pc := 1308) (i := Int32.ofNat n + 1) hX0 dL_law_1308 (gVin (c := 1) (by omega) hL) ?_
  refine r_aload_n (pc := 1309) dL_law_1309 rfl rfl ?_
  refine r_iload (pc := 1310) dL_law_1310 rfl ?_
  refine r_iconst (pc := 1312) (v := 2) dL_law_1312 (by decide) ?_
  refine r_iadd (pc := 1313) dL_law_1313 ?_
  refine r_sld (pc := 1314) (i := Int32.ofNat n + 2) hX0 dL_law_1314 (gVin (c := 2) (by omega) hL) ?_
  refine r_aload_n (pc := 1315) dL_law_1315 rfl rfl ?_
  refine r_callSW (pc := 1316) [.ref _, .int _, .int _, .ref _] (tL_set _ hlt _ _ hF0 _ _ _ _ q1 _ hk) ⟨rfl, rfl⟩ cd_L_set wL_178 nm_L_set rfl (by rw [hRm0]; decide) rfl (Nat.le_of_ble_eq_true rfl) dL_law_1316 (by rw [hRm0]; exact hcs) ?_
  obtain ⟨Y1, hY1⟩ : ∃ Y1, Y1 = gYs Y (gUo Y.2.1 o) ((gCs Y).1 + 1) ((gCs Y).2 + 6) := ⟨_, rfl⟩
  have hF1 : gFull Y1.2.1 := by rw [hY1, gYs_u]; exact gUo_full hF0
  have hX1 : gScr Y1 L xs := by rw [hY1]; exact gYs_X hX0
  have hnL1 : gNL Y1 = 7 := by rw [hY1, gYs_nL]; exact hnL0
  have hRm1 : gRm Y1 = room_1 := by rw [hY1, gYs_Rm]; exact hRm0
  have hU1 : Y1.2.1 = gUo Y.2.1 o := by rw [hY1, gYs_u]
  have hc1 := hc (gUo Y.2.1 o) (gUo_full hF0)
  rw [← hY1] at hc1 ⊢
  refine r_istore (pc := 1319) dL_law_1319 (by rw [hnL1]; decide) rfl ?_
  refine r_aload_n (pc := 1321) dL_law_1321 rfl rfl ?_
  refine r_aload_n (pc := 1322) dL_law_1322 rfl rfl ?_
  refine r_iload (pc := 1323) dL_law_1323 rfl ?_
  refine r_iconst (pc := 1325) (v := 1) dL_law_1325 (by decide) ?_
  refine r_iadd (pc := 1326) dL_law_1326 ?_
  refine r_sld (pc := 1327) (i := Int32.ofNat n + 1) hX1 dL_law_1327 (gVin (c := 1) (by omega) hL) ?_
  refine r_aload_n (pc := 1328) dL_law_1328 rfl rfl ?_
  refine r_iload (pc := 1329) dL_law_1329 rfl ?_
  refine r_iconst (pc := 1331) (v := 2) dL_law_1331 (by decide) ?_
  refine r_iadd (pc := 1332) dL_law_1332 ?_
  refine r_sld (pc := 1333) (i := Int32.ofNat n + 2) hX1 dL_law_1333 (gVin (c := 2) (by omega) hL) ?_
  refine r_callV (kd := 5) (pc := 1334) [.int _, .int _] (tX6_set _ _ _ hF1 _ _ _ _ q2) ⟨rfl, rfl⟩ cd_X6_set wL_180 nm_X6_set rfl (by rw [hRm1]; decide) rfl (Nat.le_of_ble_eq_true rfl) rfl (by decide) (gO5 hF1) dL_law_1334 ?_
  refine r_istore (pc := 1337) dL_law_1337 (by rw [hnL1]; decide) rfl ?_
  refine r_aload_n (pc := 1339) dL_law_1339 rfl rfl ?_
  refine r_callV (kd := 5) (pc := 1340) [] (tX6_thrown _ _ _ hF1 _ _ q3) ⟨rfl, rfl⟩ cd_X6_thrown wL_117 nm_X6_thrown rfl (by rw [hRm1]; decide) rfl (Nat.le_of_ble_eq_true rfl) rfl (by decide) (gO5 hF1) dL_law_1340 ?_
  refine r_iload (pc := 1343) dL_law_1343 rfl ?_
  refine r_icmpC_eq (pc := 1345) (tgt := 1350) dL_law_1345 (by decide) (fun _ => ?_) (fun g => absurd rfl g)
  refine r_iload (pc := 1350) dL_law_1350 rfl ?_
  refine r_ifC_ne (pc := 1352) (tgt := 1367) dL_law_1352 (by decide) (fun hk0 => ?_) (fun hk0 => ?_)
  · refine r_goto (pc := 1367) (tgt := 2074) dL_law_1367 (by decide) ?_
    exact r_mask [true, true, true, true, true, false, false] rfl hc1
  · subst hk0
    have hz : o.2.1 = 0 := gKz hk (by decide)
    have hv := hv hz
    subst hv
    refine r_aload_n (pc := 1355) dL_law_1355 rfl rfl ?_
    refine r_iconst (pc := 1356) (v := 0) dL_law_1356 (by decide) ?_
    refine r_lald (pc := 1357) dL_law_1357 (gOout hF1) ?_
    refine r_iload (pc := 1358) dL_law_1358 rfl ?_
    refine r_i2l (pc := 1360) dL_law_1360 ?_
    refine r_lcmp (pc := 1361) dL_law_1361 ?_
    refine r_ifC_eq (pc := 1362) (tgt := 1367) dL_law_1362 (by decide) (fun _ => ?_) (fun g => absurd ((lg_cmp_eq _ _).mpr (by rw [hU1]; unfold gUo; rw [if_pos hz]; rfl)) g)
    refine r_goto (pc := 1367) (tgt := 2074) dL_law_1367 (by decide) ?_
    exact r_mask [true, true, true, true, true, false, false] rfl hc1
set_option maxHeartbeats 4000000 in
set_option maxRecDepth 100000 in
theorem law_c19 {Y : gY} {L n : Nat} {xs : Nat → Int32} (hF0 : gFull Y.2.1) (hX0 : gScr Y L xs) (hn : n + 5 ≤ L) (hL : L ≤ 2560) (hnL0 : gNL Y = 7) (hRm0 : gRm Y = room_1) (hlt : (gLn Y).stackTraces = false) (hcs : (gCs Y).1 + 1 ≤ 601024 ∧ (gCs Y).2 + 6 ≤ 7293034) (m m3 : gM) (hq : gOk [2] (fX5_days (gSc xs n 1) m) (fun q => fX6_days (gSc xs n 1) q) m3) (hc : ∀ u1 : gU, gFull u1 → AW (gYs Y u1 ((gCs Y).1 + 1) ((gCs Y).2 + 6)) cL_law RL 2074 (gLs n) [] m3) : AW Y cL_law RL 1370 (gLs n) [] m := by
  obtain ⟨o, k, m2, b, q1, hk, q2, q3, hv⟩ := hq
  unfold gLs at hc ⊢
  refine r_aload_n (pc := 1370) dL_law_1370 rfl rfl ?_
  refine r_aload_n (pc := 1371) dL_law_1371 rfl rfl ?_
  refine r_iload (pc := 1372) dL_law_1372 rfl ?_
  refine r_iconst (pc := 1374) (v := 1) dL_law_1374 (by decide) ?_
  refine r_iadd (pc := 1375) dL_law_1375 ?_
  refine r_sld (pc := 1376) (i := Int32.ofNat n + 1) hX0 dL_law_1376 (gVin (c := 1) (by omega) hL) ?_
  refine r_aload_n (pc := 1377) dL_law_1377 rfl rfl ?_
  refine r_callSW (pc := 1378) [.ref _, .int _, .ref _] (tL_days _ hlt _ _ hF0 _ _ _ q1 _ hk) ⟨rfl, rfl⟩ cd_L_days wL_181 nm_L_days rfl (by rw [hRm0]; decide) rfl (Nat.le_of_ble_eq_true rfl) dL_law_1378 (by rw [hRm0]; exact hcs) ?_
  obtain ⟨Y1, hY1⟩ : ∃ Y1, Y1 = gYs Y (gUo Y.2.1 o) ((gCs Y).1 + 1) ((gCs Y).2 + 6) := ⟨_, rfl⟩
  have hF1 : gFull Y1.2.1 := by rw [hY1, gYs_u]; exact gUo_full hF0
  have hX1 : gScr Y1 L xs := by rw [hY1]; exact gYs_X hX0
  have hnL1 : gNL Y1 = 7 := by rw [hY1, gYs_nL]; exact hnL0
  have hRm1 : gRm Y1 = room_1 := by rw [hY1, gYs_Rm]; exact hRm0
  have hU1 : Y1.2.1 = gUo Y.2.1 o := by rw [hY1, gYs_u]
  have hc1 := hc (gUo Y.2.1 o) (gUo_full hF0)
  rw [← hY1] at hc1 ⊢
  refine r_istore (pc := 1381) dL_law_1381 (by rw [hnL1]; decide) rfl ?_
  refine r_aload_n (pc := 1383) dL_law_1383 rfl rfl ?_
  refine r_aload_n (pc := 1384) dL_law_1384 rfl rfl ?_
  refine r_iload (pc := 1385) dL_law_1385 rfl ?_
  refine r_iconst (pc := 1387) (v := 1) dL_law_1387 (by decide) ?_
  refine r_iadd (pc := 1388) dL_law_1388 ?_
  refine r_sld (pc := 1389) (i := Int32.ofNat n + 1) hX1 dL_law_1389 (gVin (c := 1) (by omega) hL) ?_
  refine r_callV (kd := 5) (pc := 1390) [.int _] (tX6_days _ _ _ hF1 _ _ _ q2) ⟨rfl, rfl⟩ cd_X6_days wL_183 nm_X6_days rfl (by rw [hRm1]; decide) rfl (Nat.le_of_ble_eq_true rfl) rfl (by decide) (gO5 hF1) dL_law_1390 ?_
  refine r_istore (pc := 1393) dL_law_1393 (by rw [hnL1]; decide) rfl ?_
  refine r_aload_n (pc := 1395) dL_law_1395 rfl rfl ?_
  refine r_callV (kd := 5) (pc := 1396) [] (tX6_thrown _ _ _ hF1 _ _ q3) ⟨rfl, rfl⟩ cd_X6_thrown wL_117 nm_X6_thrown rfl (by rw [hRm1]; decide) rfl (Nat.le_of_ble_eq_true rfl) rfl (by decide) (gO5 hF1) dL_law_1396 ?_
  refine r_iload (pc := 1399) dL_law_1399 rfl ?_
  refine r_icmpC_eq (pc := 1401) (tgt := 1406) dL_law_1401 (by decide) (fun _ => ?_) (fun g => absurd rfl g)
  refine r_iload (pc := 1406) dL_law_1406 rfl ?_
  refine r_ifC_ne (pc := 1408) (tgt := 1423) dL_law_1408 (by decide) (fun hk0 => ?_) (fun hk0 => ?_)
  · refine r_goto (pc := 1423) (tgt := 2074) dL_law_1423 (by decide) ?_
    exact r_mask [true, true, true, true, true, false, false] rfl hc1
  · subst hk0
    have hz : o.2.1 = 0 := gKz hk (by decide)
    have hv := hv hz
    subst hv
    refine r_aload_n (pc := 1411) dL_law_1411 rfl rfl ?_
    refine r_iconst (pc := 1412) (v := 0) dL_law_1412 (by decide) ?_
    refine r_lald (pc := 1413) dL_law_1413 (gOout hF1) ?_
    refine r_iload (pc := 1414) dL_law_1414 rfl ?_
    refine r_i2l (pc := 1416) dL_law_1416 ?_
    refine r_lcmp (pc := 1417) dL_law_1417 ?_
    refine r_ifC_eq (pc := 1418) (tgt := 1423) dL_law_1418 (by decide) (fun _ => ?_) (fun g => absurd ((lg_cmp_eq _ _).mpr (by rw [hU1]; unfold gUo; rw [if_pos hz]; rfl)) g)
    refine r_goto (pc := 1423) (tgt := 2074) dL_law_1423 (by decide) ?_
    exact r_mask [true, true, true, true, true, false, false] rfl hc1
set_option maxHeartbeats 4000000 in
set_option maxRecDepth 100000 in
theorem law_c20 {Y : gY} {L n : Nat} {xs : Nat → Int32} (hF0 : gFull Y.2.1) (hX0 : gScr Y L xs) (hn : n + 5 ≤ L) (hL : L ≤ 2560) (hnL0 : gNL Y = 7) (hRm0 : gRm Y = room_1) (hlt : (gLn Y).stackTraces = false) (hcs : (gCs Y).1 + 1 ≤ 601024 ∧ (gCs Y).2 + 6 ≤ 7293034) (m m3 : gM) (hq : gOk [3] (fX5_undo  m) (fun q => fX6_undo  q) m3) (hc : ∀ u1 : gU, gFull u1 → AW (gYs Y u1 ((gCs Y).1 + 1) ((gCs Y).2 + 6)) cL_law RL 2074 (gLs n) [] m3) : AW Y cL_law RL 1426 (gLs n) [] m := by
  obtain ⟨o, k, m2, b, q1, hk, q2, q3, hv⟩ := hq
  unfold gLs at hc ⊢
  refine r_aload_n (pc := 1426) dL_law_1426 rfl rfl ?_
  refine r_aload_n (pc := 1427) dL_law_1427 rfl rfl ?_
  refine r_callSW (pc := 1428) [.ref _, .ref _] (tL_undo _ hlt _ _ hF0  _ _ q1 _ hk) ⟨rfl, rfl⟩ cd_L_undo wL_184 nm_L_undo rfl (by rw [hRm0]; decide) rfl (Nat.le_of_ble_eq_true rfl) dL_law_1428 (by rw [hRm0]; exact hcs) ?_
  obtain ⟨Y1, hY1⟩ : ∃ Y1, Y1 = gYs Y (gUo Y.2.1 o) ((gCs Y).1 + 1) ((gCs Y).2 + 6) := ⟨_, rfl⟩
  have hF1 : gFull Y1.2.1 := by rw [hY1, gYs_u]; exact gUo_full hF0
  have hX1 : gScr Y1 L xs := by rw [hY1]; exact gYs_X hX0
  have hnL1 : gNL Y1 = 7 := by rw [hY1, gYs_nL]; exact hnL0
  have hRm1 : gRm Y1 = room_1 := by rw [hY1, gYs_Rm]; exact hRm0
  have hU1 : Y1.2.1 = gUo Y.2.1 o := by rw [hY1, gYs_u]
  have hc1 := hc (gUo Y.2.1 o) (gUo_full hF0)
  rw [← hY1] at hc1 ⊢
  refine r_istore (pc := 1431) dL_law_1431 (by rw [hnL1]; decide) rfl ?_
  refine r_aload_n (pc := 1433) dL_law_1433 rfl rfl ?_
  refine r_callV (kd := 5) (pc := 1434) [] (tX6_undo _ _ _ hF1  _ _ q2) ⟨rfl, rfl⟩ cd_X6_undo wL_186 nm_X6_undo rfl (by rw [hRm1]; decide) rfl (Nat.le_of_ble_eq_true rfl) rfl (by decide) (gO5 hF1) dL_law_1434 ?_
  refine r_istore (pc := 1437) dL_law_1437 (by rw [hnL1]; decide) rfl ?_
  refine r_aload_n (pc := 1439) dL_law_1439 rfl rfl ?_
  refine r_callV (kd := 5) (pc := 1440) [] (tX6_thrown _ _ _ hF1 _ _ q3) ⟨rfl, rfl⟩ cd_X6_thrown wL_117 nm_X6_thrown rfl (by rw [hRm1]; decide) rfl (Nat.le_of_ble_eq_true rfl) rfl (by decide) (gO5 hF1) dL_law_1440 ?_
  refine r_iload (pc := 1443) dL_law_1443 rfl ?_
  refine r_icmpC_eq (pc := 1445) (tgt := 1450) dL_law_1445 (by decide) (fun _ => ?_) (fun g => absurd rfl g)
  refine r_iload (pc := 1450) dL_law_1450 rfl ?_
  refine r_ifC_ne (pc := 1452) (tgt := 1467) dL_law_1452 (by decide) (fun hk0 => ?_) (fun hk0 => ?_)
  · refine r_goto (pc := 1467) (tgt := 2074) dL_law_1467 (by decide) ?_
    exact r_mask [true, true, true, true, true, false, false] rfl hc1
  · subst hk0
    have hz : o.2.1 = 0 := gKz hk (by decide)
    have hv := hv hz
    subst hv
    refine r_aload_n (pc := 1455) dL_law_1455 rfl rfl ?_
    refine r_iconst (pc := 1456) (v := 0) dL_law_1456 (by decide) ?_
    refine r_lald (pc := 1457) dL_law_1457 (gOout hF1) ?_
    refine r_iload (pc := 1458) dL_law_1458 rfl ?_
    refine r_i2l (pc := 1460) dL_law_1460 ?_
    refine r_lcmp (pc := 1461) dL_law_1461 ?_
    refine r_ifC_eq (pc := 1462) (tgt := 1467) dL_law_1462 (by decide) (fun _ => ?_) (fun g => absurd ((lg_cmp_eq _ _).mpr (by rw [hU1]; unfold gUo; rw [if_pos hz]; rfl)) g)
    refine r_goto (pc := 1467) (tgt := 2074) dL_law_1467 (by decide) ?_
    exact r_mask [true, true, true, true, true, false, false] rfl hc1
set_option maxHeartbeats 4000000 in
set_option maxRecDepth 100000 in
theorem law_c21 {Y : gY} {L n : Nat} {xs : Nat → Int32} (hF0 : gFull Y.2.1) (hX0 : gScr Y L xs) (hn : n + 5 ≤ L) (hL : L ≤ 2560) (hnL0 : gNL Y = 7) (hRm0 : gRm Y = room_1) (hlt : (gLn Y).stackTraces = false) (hcs : (gCs Y).1 + 1 ≤ 601024 ∧ (gCs Y).2 + 6 ≤ 7293034) (m m3 : gM) (hq : gOk [1] (fX5_why (gSc xs n 1) m) (fun q => fX6_why (gSc xs n 1) q) m3) (hc : ∀ u1 : gU, gFull u1 → AW (gYs Y u1 ((gCs Y).1 + 1) ((gCs Y).2 + 6)) cL_law RL 2074 (gLs n) [] m3) : AW Y cL_law RL 1470 (gLs n) [] m := by
  obtain ⟨o, k, m2, b, q1, hk, q2, q3, hv⟩ := hq
  unfold gLs at hc ⊢
  refine r_aload_n (pc := 1470) dL_law_1470 rfl rfl ?_
  refine r_aload_n (pc := 1471) dL_law_1471 rfl rfl ?_
  refine r_iload (pc := 1472) dL_law_1472 rfl ?_
  refine r_iconst (pc := 1474) (v := 1) dL_law_1474 (by decide) ?_
  refine r_iadd (pc := 1475) dL_law_1475 ?_
  refine r_sld (pc := 1476) (i := Int32.ofNat n + 1) hX0 dL_law_1476 (gVin (c := 1) (by omega) hL) ?_
  refine r_aload_n (pc := 1477) dL_law_1477 rfl rfl ?_
  refine r_callSW (pc := 1478) [.ref _, .int _, .ref _] (tL_why _ hlt _ _ hF0 _ _ _ q1 _ hk) ⟨rfl, rfl⟩ cd_L_why wL_187 nm_L_why rfl (by rw [hRm0]; decide) rfl (Nat.le_of_ble_eq_true rfl) dL_law_1478 (by rw [hRm0]; exact hcs) ?_
  obtain ⟨Y1, hY1⟩ : ∃ Y1, Y1 = gYs Y (gUo Y.2.1 o) ((gCs Y).1 + 1) ((gCs Y).2 + 6) := ⟨_, rfl⟩
  have hF1 : gFull Y1.2.1 := by rw [hY1, gYs_u]; exact gUo_full hF0
  have hX1 : gScr Y1 L xs := by rw [hY1]; exact gYs_X hX0
  have hnL1 : gNL Y1 = 7 := by rw [hY1, gYs_nL]; exact hnL0
  have hRm1 : gRm Y1 = room_1 := by rw [hY1, gYs_Rm]; exact hRm0
  have hU1 : Y1.2.1 = gUo Y.2.1 o := by rw [hY1, gYs_u]
  have hc1 := hc (gUo Y.2.1 o) (gUo_full hF0)
  rw [← hY1] at hc1 ⊢
  refine r_istore (pc := 1481) dL_law_1481 (by rw [hnL1]; decide) rfl ?_
  refine r_aload_n (pc := 1483) dL_law_1483 rfl rfl ?_
  refine r_aload_n (pc := 1484) dL_law_1484 rfl rfl ?_
  refine r_iload (pc := 1485) dL_law_1485 rfl ?_
  refine r_iconst (pc := 1487) (v := 1) dL_law_1487 (by decide) ?_
  refine r_iadd (pc := 1488) dL_law_1488 ?_
  refine r_sld (pc := 1489) (i := Int32.ofNat n + 1) hX1 dL_law_1489 (gVin (c := 1) (by omega) hL) ?_
  refine r_callV (kd := 5) (pc := 1490) [.int _] (tX6_why _ _ _ hF1 _ _ _ q2) ⟨rfl, rfl⟩ cd_X6_why wL_189 nm_X6_why rfl (by rw [hRm1]; decide) rfl (Nat.le_of_ble_eq_true rfl) rfl (by decide) (gO5 hF1) dL_law_1490 ?_
  refine r_istore (pc := 1493) dL_law_1493 (by rw [hnL1]; decide) rfl ?_
  refine r_aload_n (pc := 1495) dL_law_1495 rfl rfl ?_
  refine r_callV (kd := 5) (pc := 1496) [] (tX6_thrown _ _ _ hF1 _ _ q3) ⟨rfl, rfl⟩ cd_X6_thrown wL_117 nm_X6_thrown rfl (by rw [hRm1]; decide) rfl (Nat.le_of_ble_eq_true rfl) rfl (by decide) (gO5 hF1) dL_law_1496 ?_
  refine r_iload (pc := 1499) dL_law_1499 rfl ?_
  refine r_icmpC_eq (pc := 1501) (tgt := 1506) dL_law_1501 (by decide) (fun _ => ?_) (fun g => absurd rfl g)
  refine r_iload (pc := 1506) dL_law_1506 rfl ?_
  refine r_ifC_ne (pc := 1508) (tgt := 1523) dL_law_1508 (by decide) (fun hk0 => ?_) (fun hk0 => ?_)
  · refine r_goto (pc := 1523) (tgt := 2074) dL_law_1523 (by decide) ?_
    exact r_mask [true, true, true, true, true, false, false] rfl hc1
  · subst hk0
    have hz : o.2.1 = 0 := gKz hk (by decide)
    have hv := hv hz
    subst hv
    refine r_aload_n (pc := 1511) dL_law_1511 rfl rfl ?_
    refine r_iconst (pc := 1512) (v := 0) dL_law_1512 (by decide) ?_
    refine r_lald (pc := 1513) dL_law_1513 (gOout hF1) ?_
    refine r_iload (pc := 1514) dL_law_1514 rfl ?_
    refine r_i2l (pc := 1516) dL_law_1516 ?_
    refine r_lcmp (pc := 1517) dL_law_1517 ?_
    refine r_ifC_eq (pc := 1518) (tgt := 1523) dL_law_1518 (by decide) (fun _ => ?_) (fun g => absurd ((lg_cmp_eq _ _).mpr (by rw [hU1]; unfold gUo; rw [if_pos hz]; rfl)) g)
    refine r_goto (pc := 1523) (tgt := 2074) dL_law_1523 (by decide) ?_
    exact r_mask [true, true, true, true, true, false, false] rfl hc1
set_option maxHeartbeats 4000000 in
set_option maxRecDepth 100000 in
theorem law_c22 {Y : gY} {L n : Nat} {xs : Nat → Int32} (hF0 : gFull Y.2.1) (hX0 : gScr Y L xs) (hn : n + 5 ≤ L) (hL : L ≤ 2560) (hnL0 : gNL Y = 7) (hRm0 : gRm Y = room_1) (hlt : (gLn Y).stackTraces = false) (hcs : (gCs Y).1 + 1 ≤ 601024 ∧ (gCs Y).2 + 6 ≤ 7293034) (m m3 : gM) (hq : gOk [1, 2] (fX5_creditIn (gSc xs n 1) (gSc xs n 2) m) (fun q => fX6_creditIn (gSc xs n 1) (gSc xs n 2) q) m3) (hc : ∀ u1 : gU, gFull u1 → AW (gYs Y u1 ((gCs Y).1 + 1) ((gCs Y).2 + 6)) cL_law RL 2074 (gLs n) [] m3) : AW Y cL_law RL 1526 (gLs n) [] m := by
  obtain ⟨o, k, m2, b, q1, hk, q2, q3, hv⟩ := hq
  unfold gLs at hc ⊢
  refine r_aload_n (pc := 1526) dL_law_1526 rfl rfl ?_
  refine r_aload_n (pc := 1527) dL_law_1527 rfl rfl ?_
  refine r_iload (pc := 1528) dL_law_1528 rfl ?_
  refine r_iconst (pc := 1530) (v := 1) dL_law_1530 (by decide) ?_
  refine r_iadd (pc := 1531) dL_law_1531 ?_
  refine r_sld (pc := 1532) (i := Int32.ofNat n + 1) hX0 dL_law_1532 (gVin (c := 1) (by omega) hL) ?_
  refine r_aload_n (pc := 1533) dL_law_1533 rfl rfl ?_
  refine r_iload (pc := 1534) dL_law_1534 rfl ?_
  refine r_iconst (pc := 1536) (v := 2) dL_law_1536 (by decide) ?_
  refine r_iadd (pc := 1537) dL_law_1537 ?_
  refine r_sld (pc := 1538) (i := Int32.ofNat n + 2) hX0 dL_law_1538 (gVin (c := 2) (by omega) hL) ?_
  refine r_aload_n (pc := 1539) dL_law_1539 rfl rfl ?_
  refine r_callSW (pc := 1540) [.ref _, .int _, .int _, .ref _] (tL_creditIn _ hlt _ _ hF0 _ _ _ _ q1 _ hk) ⟨rfl, rfl⟩ cd_L_creditIn wL_190 nm_L_creditIn rfl (by rw [hRm0]; decide) rfl (Nat.le_of_ble_eq_true rfl) dL_law_1540 (by rw [hRm0]; exact hcs) ?_
  obtain ⟨Y1, hY1⟩ : ∃ Y1, Y1 = gYs Y (gUo Y.2.1 o) ((gCs Y).1 + 1) ((gCs Y).2 + 6) := ⟨_, rfl⟩
  have hF1 : gFull Y1.2.1 := by rw [hY1, gYs_u]; exact gUo_full hF0
  have hX1 : gScr Y1 L xs := by rw [hY1]; exact gYs_X hX0
  have hnL1 : gNL Y1 = 7 := by rw [hY1, gYs_nL]; exact hnL0
  have hRm1 : gRm Y1 = room_1 := by rw [hY1, gYs_Rm]; exact hRm0
  have hU1 : Y1.2.1 = gUo Y.2.1 o := by rw [hY1, gYs_u]
  have hc1 := hc (gUo Y.2.1 o) (gUo_full hF0)
  rw [← hY1] at hc1 ⊢
  refine r_istore (pc := 1543) dL_law_1543 (by rw [hnL1]; decide) rfl ?_
  refine r_aload_n (pc := 1545) dL_law_1545 rfl rfl ?_
  refine r_aload_n (pc := 1546) dL_law_1546 rfl rfl ?_
  refine r_iload (pc := 1547) dL_law_1547 rfl ?_
  refine r_iconst (pc := 1549) (v := 1) dL_law_1549 (by decide) ?_
  refine r_iadd (pc := 1550) dL_law_1550 ?_
  refine r_sld (pc := 1551) (i := Int32.ofNat n + 1) hX1 dL_law_1551 (gVin (c := 1) (by omega) hL) ?_
  refine r_aload_n (pc := 1552) dL_law_1552 rfl rfl ?_
  refine r_iload (pc := 1553) dL_law_1553 rfl ?_
  refine r_iconst (pc := 1555) (v := 2) dL_law_1555 (by decide) ?_
  refine r_iadd (pc := 1556) dL_law_1556 ?_
  refine r_sld (pc := 1557) (i := Int32.ofNat n + 2) hX1 dL_law_1557 (gVin (c := 2) (by omega) hL) ?_
  refine r_callV (kd := 5) (pc := 1558) [.int _, .int _] (tX6_creditIn _ _ _ hF1 _ _ _ _ q2) ⟨rfl, rfl⟩ cd_X6_creditIn wL_192 nm_X6_creditIn rfl (by rw [hRm1]; decide) rfl (Nat.le_of_ble_eq_true rfl) rfl (by decide) (gO5 hF1) dL_law_1558 ?_
  refine r_istore (pc := 1561) dL_law_1561 (by rw [hnL1]; decide) rfl ?_
  refine r_aload_n (pc := 1563) dL_law_1563 rfl rfl ?_
  refine r_callV (kd := 5) (pc := 1564) [] (tX6_thrown _ _ _ hF1 _ _ q3) ⟨rfl, rfl⟩ cd_X6_thrown wL_117 nm_X6_thrown rfl (by rw [hRm1]; decide) rfl (Nat.le_of_ble_eq_true rfl) rfl (by decide) (gO5 hF1) dL_law_1564 ?_
  refine r_iload (pc := 1567) dL_law_1567 rfl ?_
  refine r_icmpC_eq (pc := 1569) (tgt := 1574) dL_law_1569 (by decide) (fun _ => ?_) (fun g => absurd rfl g)
  refine r_iload (pc := 1574) dL_law_1574 rfl ?_
  refine r_ifC_ne (pc := 1576) (tgt := 1591) dL_law_1576 (by decide) (fun hk0 => ?_) (fun hk0 => ?_)
  · refine r_goto (pc := 1591) (tgt := 2074) dL_law_1591 (by decide) ?_
    exact r_mask [true, true, true, true, true, false, false] rfl hc1
  · subst hk0
    have hz : o.2.1 = 0 := gKz hk (by decide)
    have hv := hv hz
    subst hv
    refine r_aload_n (pc := 1579) dL_law_1579 rfl rfl ?_
    refine r_iconst (pc := 1580) (v := 0) dL_law_1580 (by decide) ?_
    refine r_lald (pc := 1581) dL_law_1581 (gOout hF1) ?_
    refine r_iload (pc := 1582) dL_law_1582 rfl ?_
    refine r_i2l (pc := 1584) dL_law_1584 ?_
    refine r_lcmp (pc := 1585) dL_law_1585 ?_
    refine r_ifC_eq (pc := 1586) (tgt := 1591) dL_law_1586 (by decide) (fun _ => ?_) (fun g => absurd ((lg_cmp_eq _ _).mpr (by rw [hU1]; unfold gUo; rw [if_pos hz]; rfl)) g)
    refine r_goto (pc := 1591) (tgt := 2074) dL_law_1591 (by decide) ?_
    exact r_mask [true, true, true, true, true, false, false] rfl hc1
set_option maxHeartbeats 4000000 in
set_option maxRecDepth 100000 in
theorem law_c23 {Y : gY} {L n : Nat} {xs : Nat → Int32} (hF0 : gFull Y.2.1) (hX0 : gScr Y L xs) (hn : n + 5 ≤ L) (hL : L ≤ 2560) (hnL0 : gNL Y = 7) (hRm0 : gRm Y = room_1) (hlt : (gLn Y).stackTraces = false) (hcs : (gCs Y).1 + 1 ≤ 601024 ∧ (gCs Y).2 + 6 ≤ 7293034) (m m3 : gM) (hq : gOk [1] (fX5_clearIn (gSc xs n 1) m) (fun q => fX6_clearIn (gSc xs n 1) q) m3) (hc : ∀ u1 : gU, gFull u1 → AW (gYs Y u1 ((gCs Y).1 + 1) ((gCs Y).2 + 6)) cL_law RL 2074 (gLs n) [] m3) : AW Y cL_law RL 1594 (gLs n) [] m := by
  obtain ⟨o, k, m2, b, q1, hk, q2, q3, hv⟩ := hq
  unfold gLs at hc ⊢
  refine r_aload_n (pc := 1594) dL_law_1594 rfl rfl ?_
  refine r_aload_n (pc := 1595) dL_law_1595 rfl rfl ?_
  refine r_iload (pc := 1596) dL_law_1596 rfl ?_
  refine r_iconst (pc := 1598) (v := 1) dL_law_1598 (by decide) ?_
  refine r_iadd (pc := 1599) dL_law_1599 ?_
  refine r_sld (pc := 1600) (i := Int32.ofNat n + 1) hX0 dL_law_1600 (gVin (c := 1) (by omega) hL) ?_
  refine r_aload_n (pc := 1601) dL_law_1601 rfl rfl ?_
  refine r_callSW (pc := 1602) [.ref _, .int _, .ref _] (tL_clearIn _ hlt _ _ hF0 _ _ _ q1 _ hk) ⟨rfl, rfl⟩ cd_L_clearIn wL_193 nm_L_clearIn rfl (by rw [hRm0]; decide) rfl (Nat.le_of_ble_eq_true rfl) dL_law_1602 (by rw [hRm0]; exact hcs) ?_
  obtain ⟨Y1, hY1⟩ : ∃ Y1, Y1 = gYs Y (gUo Y.2.1 o) ((gCs Y).1 + 1) ((gCs Y).2 + 6) := ⟨_, rfl⟩
  have hF1 : gFull Y1.2.1 := by rw [hY1, gYs_u]; exact gUo_full hF0
  have hX1 : gScr Y1 L xs := by rw [hY1]; exact gYs_X hX0
  have hnL1 : gNL Y1 = 7 := by rw [hY1, gYs_nL]; exact hnL0
  have hRm1 : gRm Y1 = room_1 := by rw [hY1, gYs_Rm]; exact hRm0
  have hU1 : Y1.2.1 = gUo Y.2.1 o := by rw [hY1, gYs_u]
  have hc1 := hc (gUo Y.2.1 o) (gUo_full hF0)
  rw [← hY1] at hc1 ⊢
  refine r_istore (pc := 1605) dL_law_1605 (by rw [hnL1]; decide) rfl ?_
  refine r_aload_n (pc := 1607) dL_law_1607 rfl rfl ?_
  refine r_aload_n (pc := 1608) dL_law_1608 rfl rfl ?_
  refine r_iload (pc := 1609) dL_law_1609 rfl ?_
  refine r_iconst (pc := 1611) (v := 1) dL_law_1611 (by decide) ?_
  refine r_iadd (pc := 1612) dL_law_1612 ?_
  refine r_sld (pc := 1613) (i := Int32.ofNat n + 1) hX1 dL_law_1613 (gVin (c := 1) (by omega) hL) ?_
  refine r_callV (kd := 5) (pc := 1614) [.int _] (tX6_clearIn _ _ _ hF1 _ _ _ q2) ⟨rfl, rfl⟩ cd_X6_clearIn wL_195 nm_X6_clearIn rfl (by rw [hRm1]; decide) rfl (Nat.le_of_ble_eq_true rfl) rfl (by decide) (gO5 hF1) dL_law_1614 ?_
  refine r_istore (pc := 1617) dL_law_1617 (by rw [hnL1]; decide) rfl ?_
  refine r_aload_n (pc := 1619) dL_law_1619 rfl rfl ?_
  refine r_callV (kd := 5) (pc := 1620) [] (tX6_thrown _ _ _ hF1 _ _ q3) ⟨rfl, rfl⟩ cd_X6_thrown wL_117 nm_X6_thrown rfl (by rw [hRm1]; decide) rfl (Nat.le_of_ble_eq_true rfl) rfl (by decide) (gO5 hF1) dL_law_1620 ?_
  refine r_iload (pc := 1623) dL_law_1623 rfl ?_
  refine r_icmpC_eq (pc := 1625) (tgt := 1630) dL_law_1625 (by decide) (fun _ => ?_) (fun g => absurd rfl g)
  refine r_iload (pc := 1630) dL_law_1630 rfl ?_
  refine r_ifC_ne (pc := 1632) (tgt := 1647) dL_law_1632 (by decide) (fun hk0 => ?_) (fun hk0 => ?_)
  · refine r_goto (pc := 1647) (tgt := 2074) dL_law_1647 (by decide) ?_
    exact r_mask [true, true, true, true, true, false, false] rfl hc1
  · subst hk0
    have hz : o.2.1 = 0 := gKz hk (by decide)
    have hv := hv hz
    subst hv
    refine r_aload_n (pc := 1635) dL_law_1635 rfl rfl ?_
    refine r_iconst (pc := 1636) (v := 0) dL_law_1636 (by decide) ?_
    refine r_lald (pc := 1637) dL_law_1637 (gOout hF1) ?_
    refine r_iload (pc := 1638) dL_law_1638 rfl ?_
    refine r_i2l (pc := 1640) dL_law_1640 ?_
    refine r_lcmp (pc := 1641) dL_law_1641 ?_
    refine r_ifC_eq (pc := 1642) (tgt := 1647) dL_law_1642 (by decide) (fun _ => ?_) (fun g => absurd ((lg_cmp_eq _ _).mpr (by rw [hU1]; unfold gUo; rw [if_pos hz]; rfl)) g)
    refine r_goto (pc := 1647) (tgt := 2074) dL_law_1647 (by decide) ?_
    exact r_mask [true, true, true, true, true, false, false] rfl hc1
set_option maxHeartbeats 4000000 in
set_option maxRecDepth 100000 in
theorem law_c24 {Y : gY} {L n : Nat} {xs : Nat → Int32} (hF0 : gFull Y.2.1) (hX0 : gScr Y L xs) (hn : n + 5 ≤ L) (hL : L ≤ 2560) (hnL0 : gNL Y = 7) (hRm0 : gRm Y = room_1) (hlt : (gLn Y).stackTraces = false) (hcs : (gCs Y).1 + 1 ≤ 601024 ∧ (gCs Y).2 + 6 ≤ 7293034) (m m3 : gM) (hq : gOk [2] (fX5_leastOven (gSc xs n 1) m) (fun q => fX6_leastOven (gSc xs n 1) q) m3) (hc : ∀ u1 : gU, gFull u1 → AW (gYs Y u1 ((gCs Y).1 + 1) ((gCs Y).2 + 6)) cL_law RL 2074 (gLs n) [] m3) : AW Y cL_law RL 1650 (gLs n) [] m := by
  obtain ⟨o, k, m2, b, q1, hk, q2, q3, hv⟩ := hq
  unfold gLs at hc ⊢
  refine r_aload_n (pc := 1650) dL_law_1650 rfl rfl ?_
  refine r_aload_n (pc := 1651) dL_law_1651 rfl rfl ?_
  refine r_iload (pc := 1652) dL_law_1652 rfl ?_
  refine r_iconst (pc := 1654) (v := 1) dL_law_1654 (by decide) ?_
  refine r_iadd (pc := 1655) dL_law_1655 ?_
  refine r_sld (pc := 1656) (i := Int32.ofNat n + 1) hX0 dL_law_1656 (gVin (c := 1) (by omega) hL) ?_
  refine r_aload_n (pc := 1657) dL_law_1657 rfl rfl ?_
  refine r_callSW (pc := 1658) [.ref _, .int _, .ref _] (tL_leastOven _ hlt _ _ hF0 _ _ _ q1 _ hk) ⟨rfl, rfl⟩ cd_L_leastOven wL_196 nm_L_leastOven rfl (by rw [hRm0]; decide) rfl (Nat.le_of_ble_eq_true rfl) dL_law_1658 (by rw [hRm0]; exact hcs) ?_
  obtain ⟨Y1, hY1⟩ : ∃ Y1, Y1 = gYs Y (gUo Y.2.1 o) ((gCs Y).1 + 1) ((gCs Y).2 + 6) := ⟨_, rfl⟩
  have hF1 : gFull Y1.2.1 := by rw [hY1, gYs_u]; exact gUo_full hF0
  have hX1 : gScr Y1 L xs := by rw [hY1]; exact gYs_X hX0
  have hnL1 : gNL Y1 = 7 := by rw [hY1, gYs_nL]; exact hnL0
  have hRm1 : gRm Y1 = room_1 := by rw [hY1, gYs_Rm]; exact hRm0
  have hU1 : Y1.2.1 = gUo Y.2.1 o := by rw [hY1, gYs_u]
  have hc1 := hc (gUo Y.2.1 o) (gUo_full hF0)
  rw [← hY1] at hc1 ⊢
  refine r_istore (pc := 1661) dL_law_1661 (by rw [hnL1]; decide) rfl ?_
  refine r_aload_n (pc := 1663) dL_law_1663 rfl rfl ?_
  refine r_aload_n (pc := 1664) dL_law_1664 rfl rfl ?_
  refine r_iload (pc := 1665) dL_law_1665 rfl ?_
  refine r_iconst (pc := 1667) (v := 1) dL_law_1667 (by decide) ?_
  refine r_iadd (pc := 1668) dL_law_1668 ?_
  refine r_sld (pc := 1669) (i := Int32.ofNat n + 1) hX1 dL_law_1669 (gVin (c := 1) (by omega) hL) ?_
  refine r_callV (kd := 5) (pc := 1670) [.int _] (tX6_leastOven _ _ _ hF1 _ _ _ q2) ⟨rfl, rfl⟩ cd_X6_leastOven wL_198 nm_X6_leastOven rfl (by rw [hRm1]; decide) rfl (Nat.le_of_ble_eq_true rfl) rfl (by decide) (gO5 hF1) dL_law_1670 ?_
  refine r_istore (pc := 1673) dL_law_1673 (by rw [hnL1]; decide) rfl ?_
  refine r_aload_n (pc := 1675) dL_law_1675 rfl rfl ?_
  refine r_callV (kd := 5) (pc := 1676) [] (tX6_thrown _ _ _ hF1 _ _ q3) ⟨rfl, rfl⟩ cd_X6_thrown wL_117 nm_X6_thrown rfl (by rw [hRm1]; decide) rfl (Nat.le_of_ble_eq_true rfl) rfl (by decide) (gO5 hF1) dL_law_1676 ?_
  refine r_iload (pc := 1679) dL_law_1679 rfl ?_
  refine r_icmpC_eq (pc := 1681) (tgt := 1686) dL_law_1681 (by decide) (fun _ => ?_) (fun g => absurd rfl g)
  refine r_iload (pc := 1686) dL_law_1686 rfl ?_
  refine r_ifC_ne (pc := 1688) (tgt := 1703) dL_law_1688 (by decide) (fun hk0 => ?_) (fun hk0 => ?_)
  · refine r_goto (pc := 1703) (tgt := 2074) dL_law_1703 (by decide) ?_
    exact r_mask [true, true, true, true, true, false, false] rfl hc1
  · subst hk0
    have hz : o.2.1 = 0 := gKz hk (by decide)
    have hv := hv hz
    subst hv
    refine r_aload_n (pc := 1691) dL_law_1691 rfl rfl ?_
    refine r_iconst (pc := 1692) (v := 0) dL_law_1692 (by decide) ?_
    refine r_lald (pc := 1693) dL_law_1693 (gOout hF1) ?_
    refine r_iload (pc := 1694) dL_law_1694 rfl ?_
    refine r_i2l (pc := 1696) dL_law_1696 ?_
    refine r_lcmp (pc := 1697) dL_law_1697 ?_
    refine r_ifC_eq (pc := 1698) (tgt := 1703) dL_law_1698 (by decide) (fun _ => ?_) (fun g => absurd ((lg_cmp_eq _ _).mpr (by rw [hU1]; unfold gUo; rw [if_pos hz]; rfl)) g)
    refine r_goto (pc := 1703) (tgt := 2074) dL_law_1703 (by decide) ?_
    exact r_mask [true, true, true, true, true, false, false] rfl hc1
set_option maxHeartbeats 4000000 in
set_option maxRecDepth 100000 in
theorem law_c25 {Y : gY} {L n : Nat} {xs : Nat → Int32} (hF0 : gFull Y.2.1) (hX0 : gScr Y L xs) (hn : n + 5 ≤ L) (hL : L ≤ 2560) (hnL0 : gNL Y = 7) (hRm0 : gRm Y = room_1) (hlt : (gLn Y).stackTraces = false) (hcs : (gCs Y).1 + 1 ≤ 601024 ∧ (gCs Y).2 + 6 ≤ 7293034) (m m3 : gM) (hq : gOk [2] (fX5_bestRound (gSc xs n 1) m) (fun q => fX6_bestRound (gSc xs n 1) q) m3) (hc : ∀ u1 : gU, gFull u1 → AW (gYs Y u1 ((gCs Y).1 + 1) ((gCs Y).2 + 6)) cL_law RL 2074 (gLs n) [] m3) : AW Y cL_law RL 1706 (gLs n) [] m := by
  obtain ⟨o, k, m2, b, q1, hk, q2, q3, hv⟩ := hq
  unfold gLs at hc ⊢
  refine r_aload_n (pc := 1706) dL_law_1706 rfl rfl ?_
  refine r_aload_n (pc := 1707) dL_law_1707 rfl rfl ?_
  refine r_iload (pc := 1708) dL_law_1708 rfl ?_
  refine r_iconst (pc := 1710) (v := 1) dL_law_1710 (by decide) ?_
  refine r_iadd (pc := 1711) dL_law_1711 ?_
  refine r_sld (pc := 1712) (i := Int32.ofNat n + 1) hX0 dL_law_1712 (gVin (c := 1) (by omega) hL) ?_
  refine r_aload_n (pc := 1713) dL_law_1713 rfl rfl ?_
  refine r_callSW (pc := 1714) [.ref _, .int _, .ref _] (tL_bestRound _ hlt _ _ hF0 _ _ _ q1 _ hk) ⟨rfl, rfl⟩ cd_L_bestRound wL_199 nm_L_bestRound rfl (by rw [hRm0]; decide) rfl (Nat.le_of_ble_eq_true rfl) dL_law_1714 (by rw [hRm0]; exact hcs) ?_
  obtain ⟨Y1, hY1⟩ : ∃ Y1, Y1 = gYs Y (gUo Y.2.1 o) ((gCs Y).1 + 1) ((gCs Y).2 + 6) := ⟨_, rfl⟩
  have hF1 : gFull Y1.2.1 := by rw [hY1, gYs_u]; exact gUo_full hF0
  have hX1 : gScr Y1 L xs := by rw [hY1]; exact gYs_X hX0
  have hnL1 : gNL Y1 = 7 := by rw [hY1, gYs_nL]; exact hnL0
  have hRm1 : gRm Y1 = room_1 := by rw [hY1, gYs_Rm]; exact hRm0
  have hU1 : Y1.2.1 = gUo Y.2.1 o := by rw [hY1, gYs_u]
  have hc1 := hc (gUo Y.2.1 o) (gUo_full hF0)
  rw [← hY1] at hc1 ⊢
  refine r_istore (pc := 1717) dL_law_1717 (by rw [hnL1]; decide) rfl ?_
  refine r_aload_n (pc := 1719) dL_law_1719 rfl rfl ?_
  refine r_aload_n (pc := 1720) dL_law_1720 rfl rfl ?_
  refine r_iload (pc := 1721) dL_law_1721 rfl ?_
  refine r_iconst (pc := 1723) (v := 1) dL_law_1723 (by decide) ?_
  refine r_iadd (pc := 1724) dL_law_1724 ?_
  refine r_sld (pc := 1725) (i := Int32.ofNat n + 1) hX1 dL_law_1725 (gVin (c := 1) (by omega) hL) ?_
  refine r_callV (kd := 5) (pc := 1726) [.int _] (tX6_bestRound _ _ _ hF1 _ _ _ q2) ⟨rfl, rfl⟩ cd_X6_bestRound wL_201 nm_X6_bestRound rfl (by rw [hRm1]; decide) rfl (Nat.le_of_ble_eq_true rfl) rfl (by decide) (gO5 hF1) dL_law_1726 ?_
  refine r_istore (pc := 1729) dL_law_1729 (by rw [hnL1]; decide) rfl ?_
  refine r_aload_n (pc := 1731) dL_law_1731 rfl rfl ?_
  refine r_callV (kd := 5) (pc := 1732) [] (tX6_thrown _ _ _ hF1 _ _ q3) ⟨rfl, rfl⟩ cd_X6_thrown wL_117 nm_X6_thrown rfl (by rw [hRm1]; decide) rfl (Nat.le_of_ble_eq_true rfl) rfl (by decide) (gO5 hF1) dL_law_1732 ?_
  refine r_iload (pc := 1735) dL_law_1735 rfl ?_
  refine r_icmpC_eq (pc := 1737) (tgt := 1742) dL_law_1737 (by decide) (fun _ => ?_) (fun g => absurd rfl g)
  refine r_iload (pc := 1742) dL_law_1742 rfl ?_
  refine r_ifC_ne (pc := 1744) (tgt := 1759) dL_law_1744 (by decide) (fun hk0 => ?_) (fun hk0 => ?_)
  · refine r_goto (pc := 1759) (tgt := 2074) dL_law_1759 (by decide) ?_
    exact r_mask [true, true, true, true, true, false, false] rfl hc1
  · subst hk0
    have hz : o.2.1 = 0 := gKz hk (by decide)
    have hv := hv hz
    subst hv
    refine r_aload_n (pc := 1747) dL_law_1747 rfl rfl ?_
    refine r_iconst (pc := 1748) (v := 0) dL_law_1748 (by decide) ?_
    refine r_lald (pc := 1749) dL_law_1749 (gOout hF1) ?_
    refine r_iload (pc := 1750) dL_law_1750 rfl ?_
    refine r_i2l (pc := 1752) dL_law_1752 ?_
    refine r_lcmp (pc := 1753) dL_law_1753 ?_
    refine r_ifC_eq (pc := 1754) (tgt := 1759) dL_law_1754 (by decide) (fun _ => ?_) (fun g => absurd ((lg_cmp_eq _ _).mpr (by rw [hU1]; unfold gUo; rw [if_pos hz]; rfl)) g)
    refine r_goto (pc := 1759) (tgt := 2074) dL_law_1759 (by decide) ?_
    exact r_mask [true, true, true, true, true, false, false] rfl hc1
set_option maxHeartbeats 4000000 in
set_option maxRecDepth 100000 in
theorem law_c26 {Y : gY} {L n : Nat} {xs : Nat → Int32} (hF0 : gFull Y.2.1) (hX0 : gScr Y L xs) (hn : n + 5 ≤ L) (hL : L ≤ 2560) (hnL0 : gNL Y = 7) (hRm0 : gRm Y = room_1) (hlt : (gLn Y).stackTraces = false) (hcs : (gCs Y).1 + 1 ≤ 601024 ∧ (gCs Y).2 + 6 ≤ 7293034) (m m3 : gM) (hq : gOk [2] (fX5_runScript (gSc xs n 1) (((gSc xs n 2).toInt64 <<< (((32 : Int32).toInt64) &&& 63)) ||| ((gSc xs n 3).toInt64 &&& 4294967295)) m) (fun q => fX6_runScript (gSc xs n 1) (((gSc xs n 2).toInt64 <<< (((32 : Int32).toInt64) &&& 63)) ||| ((gSc xs n 3).toInt64 &&& 4294967295)) q) m3) (hc : ∀ u1 : gU, gFull u1 → AW (gYs Y u1 ((gCs Y).1 + 1) ((gCs Y).2 + 6)) cL_law RL 2074 (gLs n) [] m3) : AW Y cL_law RL 1762 (gLs n) [] m := by
  obtain ⟨o, k, m2, b, q1, hk, q2, q3, hv⟩ := hq
  unfold gLs at hc ⊢
  refine r_aload_n (pc := 1762) dL_law_1762 rfl rfl ?_
  refine r_aload_n (pc := 1763) dL_law_1763 rfl rfl ?_
  refine r_iload (pc := 1764) dL_law_1764 rfl ?_
  refine r_iconst (pc := 1766) (v := 1) dL_law_1766 (by decide) ?_
  refine r_iadd (pc := 1767) dL_law_1767 ?_
  refine r_sld (pc := 1768) (i := Int32.ofNat n + 1) hX0 dL_law_1768 (gVin (c := 1) (by omega) hL) ?_
  refine r_aload_n (pc := 1769) dL_law_1769 rfl rfl ?_
  refine r_iload (pc := 1770) dL_law_1770 rfl ?_
  refine r_iconst (pc := 1772) (v := 2) dL_law_1772 (by decide) ?_
  refine r_iadd (pc := 1773) dL_law_1773 ?_
  refine r_sld (pc := 1774) (i := Int32.ofNat n + 2) hX0 dL_law_1774 (gVin (c := 2) (by omega) hL) ?_
  refine r_i2l (pc := 1775) dL_law_1775 ?_
  refine r_bipush (pc := 1776) (v := 32) dL_law_1776 (by decide) ?_
  refine r_lshl (pc := 1778) dL_law_1778 ?_
  refine r_aload_n (pc := 1779) dL_law_1779 rfl rfl ?_
  refine r_iload (pc := 1780) dL_law_1780 rfl ?_
  refine r_iconst (pc := 1782) (v := 3) dL_law_1782 (by decide) ?_
  refine r_iadd (pc := 1783) dL_law_1783 ?_
  refine r_sld (pc := 1784) (i := Int32.ofNat n + 3) hX0 dL_law_1784 (gVin (c := 3) (by omega) hL) ?_
  refine r_i2l (pc := 1785) dL_law_1785 ?_
  refine r_ldc2 (pc := 1786) (v := 4294967295) dL_law_1786 cL_202 ?_
  refine r_land (pc := 1789) dL_law_1789 ?_
  refine r_lor (pc := 1790) dL_law_1790 ?_
  refine r_aload_n (pc := 1791) dL_law_1791 rfl rfl ?_
  refine r_callSW (pc := 1792) [.ref _, .int _, .long _, .ref _] (tL_runScript _ hlt _ _ hF0 _ _ _ _ q1 _ hk) ⟨rfl, rfl⟩ cd_L_runScript wL_204 nm_L_runScript rfl (by rw [hRm0]; decide) rfl (Nat.le_of_ble_eq_true rfl) dL_law_1792 (by rw [hRm0]; exact hcs) ?_
  obtain ⟨Y1, hY1⟩ : ∃ Y1, Y1 = gYs Y (gUo Y.2.1 o) ((gCs Y).1 + 1) ((gCs Y).2 + 6) := ⟨_, rfl⟩
  have hF1 : gFull Y1.2.1 := by rw [hY1, gYs_u]; exact gUo_full hF0
  have hX1 : gScr Y1 L xs := by rw [hY1]; exact gYs_X hX0
  have hnL1 : gNL Y1 = 7 := by rw [hY1, gYs_nL]; exact hnL0
  have hRm1 : gRm Y1 = room_1 := by rw [hY1, gYs_Rm]; exact hRm0
  have hU1 : Y1.2.1 = gUo Y.2.1 o := by rw [hY1, gYs_u]
  have hc1 := hc (gUo Y.2.1 o) (gUo_full hF0)
  rw [← hY1] at hc1 ⊢
  refine r_istore (pc := 1795) dL_law_1795 (by rw [hnL1]; decide) rfl ?_
  refine r_aload_n (pc := 1797) dL_law_1797 rfl rfl ?_
  refine r_aload_n (pc := 1798) dL_law_1798 rfl rfl ?_
  refine r_iload (pc := 1799) dL_law_1799 rfl ?_
  refine r_iconst (pc := 1801) (v := 1) dL_law_1801 (by decide) ?_
  refine r_iadd (pc := 1802) dL_law_1802 ?_
  refine r_sld (pc := 1803) (i := Int32.ofNat n + 1) hX1 dL_law_1803 (gVin (c := 1) (by omega) hL) ?_
  refine r_aload_n (pc := 1804) dL_law_1804 rfl rfl ?_
  refine r_iload (pc := 1805) dL_law_1805 rfl ?_
  refine r_iconst (pc := 1807) (v := 2) dL_law_1807 (by decide) ?_
  refine r_iadd (pc := 1808) dL_law_1808 ?_
  refine r_sld (pc := 1809) (i := Int32.ofNat n + 2) hX1 dL_law_1809 (gVin (c := 2) (by omega) hL) ?_
  refine r_i2l (pc := 1810) dL_law_1810 ?_
  refine r_bipush (pc := 1811) (v := 32) dL_law_1811 (by decide) ?_
  refine r_lshl (pc := 1813) dL_law_1813 ?_
  refine r_aload_n (pc := 1814) dL_law_1814 rfl rfl ?_
  refine r_iload (pc := 1815) dL_law_1815 rfl ?_
  refine r_iconst (pc := 1817) (v := 3) dL_law_1817 (by decide) ?_
  refine r_iadd (pc := 1818) dL_law_1818 ?_
  refine r_sld (pc := 1819) (i := Int32.ofNat n + 3) hX1 dL_law_1819 (gVin (c := 3) (by omega) hL) ?_
  refine r_i2l (pc := 1820) dL_law_1820 ?_
  refine r_ldc2 (pc := 1821) (v := 4294967295) dL_law_1821 cL_202 ?_
  refine r_land (pc := 1824) dL_law_1824 ?_
  refine r_lor (pc := 1825) dL_law_1825 ?_
  refine r_callV (kd := 5) (pc := 1826) [.int _, .long _] (tX6_runScript _ _ _ hF1 _ _ _ _ q2) ⟨rfl, rfl⟩ cd_X6_runScript wL_207 nm_X6_runScript rfl (by rw [hRm1]; decide) rfl (Nat.le_of_ble_eq_true rfl) rfl (by decide) (gO5 hF1) dL_law_1826 ?_
  refine r_istore (pc := 1829) dL_law_1829 (by rw [hnL1]; decide) rfl ?_
  refine r_aload_n (pc := 1831) dL_law_1831 rfl rfl ?_
  refine r_callV (kd := 5) (pc := 1832) [] (tX6_thrown _ _ _ hF1 _ _ q3) ⟨rfl, rfl⟩ cd_X6_thrown wL_117 nm_X6_thrown rfl (by rw [hRm1]; decide) rfl (Nat.le_of_ble_eq_true rfl) rfl (by decide) (gO5 hF1) dL_law_1832 ?_
  refine r_iload (pc := 1835) dL_law_1835 rfl ?_
  refine r_icmpC_eq (pc := 1837) (tgt := 1842) dL_law_1837 (by decide) (fun _ => ?_) (fun g => absurd rfl g)
  refine r_iload (pc := 1842) dL_law_1842 rfl ?_
  refine r_ifC_ne (pc := 1844) (tgt := 1859) dL_law_1844 (by decide) (fun hk0 => ?_) (fun hk0 => ?_)
  · refine r_goto (pc := 1859) (tgt := 2074) dL_law_1859 (by decide) ?_
    exact r_mask [true, true, true, true, true, false, false] rfl hc1
  · subst hk0
    have hz : o.2.1 = 0 := gKz hk (by decide)
    have hv := hv hz
    subst hv
    refine r_aload_n (pc := 1847) dL_law_1847 rfl rfl ?_
    refine r_iconst (pc := 1848) (v := 0) dL_law_1848 (by decide) ?_
    refine r_lald (pc := 1849) dL_law_1849 (gOout hF1) ?_
    refine r_iload (pc := 1850) dL_law_1850 rfl ?_
    refine r_i2l (pc := 1852) dL_law_1852 ?_
    refine r_lcmp (pc := 1853) dL_law_1853 ?_
    refine r_ifC_eq (pc := 1854) (tgt := 1859) dL_law_1854 (by decide) (fun _ => ?_) (fun g => absurd ((lg_cmp_eq _ _).mpr (by rw [hU1]; unfold gUo; rw [if_pos hz]; rfl)) g)
    refine r_goto (pc := 1859) (tgt := 2074) dL_law_1859 (by decide) ?_
    exact r_mask [true, true, true, true, true, false, false] rfl hc1
set_option maxHeartbeats 4000000 in
set_option maxRecDepth 100000 in
theorem law_c27 {Y : gY} {L n : Nat} {xs : Nat → Int32} (hF0 : gFull Y.2.1) (hX0 : gScr Y L xs) (hn : n + 5 ≤ L) (hL : L ≤ 2560) (hnL0 : gNL Y = 7) (hRm0 : gRm Y = room_1) (hlt : (gLn Y).stackTraces = false) (hcs : (gCs Y).1 + 1 ≤ 601024 ∧ (gCs Y).2 + 6 ≤ 7293034) (m m3 : gM) (hq : gOk [2] (fX5_simulate (((gSc xs n 1).toInt64 <<< (((32 : Int32).toInt64) &&& 63)) ||| ((gSc xs n 2).toInt64 &&& 4294967295)) (gSc xs n 3) m) (fun q => fX6_simulate (((gSc xs n 1).toInt64 <<< (((32 : Int32).toInt64) &&& 63)) ||| ((gSc xs n 2).toInt64 &&& 4294967295)) (gSc xs n 3) q) m3) (hc : ∀ u1 : gU, gFull u1 → AW (gYs Y u1 ((gCs Y).1 + 1) ((gCs Y).2 + 6)) cL_law RL 2074 (gLs n) [] m3) : AW Y cL_law RL 1862 (gLs n) [] m := by
  obtain ⟨o, k, m2, b, q1, hk, q2, q3, hv⟩ := hq
  unfold gLs at hc ⊢
  refine r_aload_n (pc := 1862) dL_law_1862 rfl rfl ?_
  refine r_aload_n (pc := 1863) dL_law_1863 rfl rfl ?_
  refine r_iload (pc := 1864) dL_law_1864 rfl ?_
  refine r_iconst (pc := 1866) (v := 1) dL_law_1866 (by decide) ?_
  refine r_iadd (pc := 1867) dL_law_1867 ?_
  refine r_sld (pc := 1868) (i := Int32.ofNat n + 1) hX0 dL_law_1868 (gVin (c := 1) (by omega) hL) ?_
  refine r_i2l (pc := 1869) dL_law_1869 ?_
  refine r_bipush (pc := 1870) (v := 32) dL_law_1870 (by decide) ?_
  refine r_lshl (pc := 1872) dL_law_1872 ?_
  refine r_aload_n (pc := 1873) dL_law_1873 rfl rfl ?_
  refine r_iload (pc := 1874) dL_law_1874 rfl ?_
  refine r_iconst (pc := 1876) (v := 2) dL_law_1876 (by decide) ?_
  refine r_iadd (pc := 1877) dL_law_1877 ?_
  refine r_sld (pc := 1878) (i := Int32.ofNat n + 2) hX0 dL_law_1878 (gVin (c := 2) (by omega) hL) ?_
  refine r_i2l (pc := 1879) dL_law_1879 ?_
  refine r_ldc2 (pc := 1880) (v := 4294967295) dL_law_1880 cL_202 ?_
  refine r_land (pc := 1883) dL_law_1883 ?_
  refine r_lor (pc := 1884) dL_law_1884 ?_
  refine r_aload_n (pc := 1885) dL_law_1885 rfl rfl ?_
  refine r_iload (pc := 1886) dL_law_1886 rfl ?_
  refine r_iconst (pc := 1888) (v := 3) dL_law_1888 (by decide) ?_
  refine r_iadd (pc := 1889) dL_law_1889 ?_
  refine r_sld (pc := 1890) (i := Int32.ofNat n + 3) hX0 dL_law_1890 (gVin (c := 3) (by omega) hL) ?_
  refine r_aload_n (pc := 1891) dL_law_1891 rfl rfl ?_
  refine r_callSW (pc := 1892) [.ref _, .long _, .int _, .ref _] (tL_simulate _ hlt _ _ hF0 _ _ _ _ q1 _ hk) ⟨rfl, rfl⟩ cd_L_simulate wL_208 nm_L_simulate rfl (by rw [hRm0]; decide) rfl (Nat.le_of_ble_eq_true rfl) dL_law_1892 (by rw [hRm0]; exact hcs) ?_
  obtain ⟨Y1, hY1⟩ : ∃ Y1, Y1 = gYs Y (gUo Y.2.1 o) ((gCs Y).1 + 1) ((gCs Y).2 + 6) := ⟨_, rfl⟩
  have hF1 : gFull Y1.2.1 := by rw [hY1, gYs_u]; exact gUo_full hF0
  have hX1 : gScr Y1 L xs := by rw [hY1]; exact gYs_X hX0
  have hnL1 : gNL Y1 = 7 := by rw [hY1, gYs_nL]; exact hnL0
  have hRm1 : gRm Y1 = room_1 := by rw [hY1, gYs_Rm]; exact hRm0
  have hU1 : Y1.2.1 = gUo Y.2.1 o := by rw [hY1, gYs_u]
  have hc1 := hc (gUo Y.2.1 o) (gUo_full hF0)
  rw [← hY1] at hc1 ⊢
  refine r_istore (pc := 1895) dL_law_1895 (by rw [hnL1]; decide) rfl ?_
  refine r_aload_n (pc := 1897) dL_law_1897 rfl rfl ?_
  refine r_aload_n (pc := 1898) dL_law_1898 rfl rfl ?_
  refine r_iload (pc := 1899) dL_law_1899 rfl ?_
  refine r_iconst (pc := 1901) (v := 1) dL_law_1901 (by decide) ?_
  refine r_iadd (pc := 1902) dL_law_1902 ?_
  refine r_sld (pc := 1903) (i := Int32.ofNat n + 1) hX1 dL_law_1903 (gVin (c := 1) (by omega) hL) ?_
  refine r_i2l (pc := 1904) dL_law_1904 ?_
  refine r_bipush (pc := 1905) (v := 32) dL_law_1905 (by decide) ?_
  refine r_lshl (pc := 1907) dL_law_1907 ?_
  refine r_aload_n (pc := 1908) dL_law_1908 rfl rfl ?_
  refine r_iload (pc := 1909) dL_law_1909 rfl ?_
  refine r_iconst (pc := 1911) (v := 2) dL_law_1911 (by decide) ?_
  refine r_iadd (pc := 1912) dL_law_1912 ?_
  refine r_sld (pc := 1913) (i := Int32.ofNat n + 2) hX1 dL_law_1913 (gVin (c := 2) (by omega) hL) ?_
  refine r_i2l (pc := 1914) dL_law_1914 ?_
  refine r_ldc2 (pc := 1915) (v := 4294967295) dL_law_1915 cL_202 ?_
  refine r_land (pc := 1918) dL_law_1918 ?_
  refine r_lor (pc := 1919) dL_law_1919 ?_
  refine r_aload_n (pc := 1920) dL_law_1920 rfl rfl ?_
  refine r_iload (pc := 1921) dL_law_1921 rfl ?_
  refine r_iconst (pc := 1923) (v := 3) dL_law_1923 (by decide) ?_
  refine r_iadd (pc := 1924) dL_law_1924 ?_
  refine r_sld (pc := 1925) (i := Int32.ofNat n + 3) hX1 dL_law_1925 (gVin (c := 3) (by omega) hL) ?_
  refine r_callV (kd := 5) (pc := 1926) [.long _, .int _] (tX6_simulate _ _ _ hF1 _ _ _ _ q2) ⟨rfl, rfl⟩ cd_X6_simulate wL_211 nm_X6_simulate rfl (by rw [hRm1]; decide) rfl (Nat.le_of_ble_eq_true rfl) rfl (by decide) (gO5 hF1) dL_law_1926 ?_
  refine r_istore (pc := 1929) dL_law_1929 (by rw [hnL1]; decide) rfl ?_
  refine r_aload_n (pc := 1931) dL_law_1931 rfl rfl ?_
  refine r_callV (kd := 5) (pc := 1932) [] (tX6_thrown _ _ _ hF1 _ _ q3) ⟨rfl, rfl⟩ cd_X6_thrown wL_117 nm_X6_thrown rfl (by rw [hRm1]; decide) rfl (Nat.le_of_ble_eq_true rfl) rfl (by decide) (gO5 hF1) dL_law_1932 ?_
  refine r_iload (pc := 1935) dL_law_1935 rfl ?_
  refine r_icmpC_eq (pc := 1937) (tgt := 1942) dL_law_1937 (by decide) (fun _ => ?_) (fun g => absurd rfl g)
  refine r_iload (pc := 1942) dL_law_1942 rfl ?_
  refine r_ifC_ne (pc := 1944) (tgt := 1959) dL_law_1944 (by decide) (fun hk0 => ?_) (fun hk0 => ?_)
  · refine r_goto (pc := 1959) (tgt := 2074) dL_law_1959 (by decide) ?_
    exact r_mask [true, true, true, true, true, false, false] rfl hc1
  · subst hk0
    have hz : o.2.1 = 0 := gKz hk (by decide)
    have hv := hv hz
    subst hv
    refine r_aload_n (pc := 1947) dL_law_1947 rfl rfl ?_
    refine r_iconst (pc := 1948) (v := 0) dL_law_1948 (by decide) ?_
    refine r_lald (pc := 1949) dL_law_1949 (gOout hF1) ?_
    refine r_iload (pc := 1950) dL_law_1950 rfl ?_
    refine r_i2l (pc := 1952) dL_law_1952 ?_
    refine r_lcmp (pc := 1953) dL_law_1953 ?_
    refine r_ifC_eq (pc := 1954) (tgt := 1959) dL_law_1954 (by decide) (fun _ => ?_) (fun g => absurd ((lg_cmp_eq _ _).mpr (by rw [hU1]; unfold gUo; rw [if_pos hz]; rfl)) g)
    refine r_goto (pc := 1959) (tgt := 2074) dL_law_1959 (by decide) ?_
    exact r_mask [true, true, true, true, true, false, false] rfl hc1
set_option maxHeartbeats 4000000 in
set_option maxRecDepth 100000 in
theorem law_c28 {Y : gY} {L n : Nat} {xs : Nat → Int32} (hF0 : gFull Y.2.1) (hX0 : gScr Y L xs) (hn : n + 5 ≤ L) (hL : L ≤ 2560) (hnL0 : gNL Y = 7) (hRm0 : gRm Y = room_1) (hlt : (gLn Y).stackTraces = false) (hcs : (gCs Y).1 + 1 ≤ 601024 ∧ (gCs Y).2 + 6 ≤ 7293034) (m m3 : gM) (hq : gOk [1] (fX5_save (gSc xs n 1) m) (fun q => fX6_save (gSc xs n 1) q) m3) (hc : ∀ u1 : gU, gFull u1 → AW (gYs Y u1 ((gCs Y).1 + 1) ((gCs Y).2 + 6)) cL_law RL 2074 (gLs n) [] m3) : AW Y cL_law RL 1962 (gLs n) [] m := by
  obtain ⟨o, k, m2, b, q1, hk, q2, q3, hv⟩ := hq
  unfold gLs at hc ⊢
  refine r_aload_n (pc := 1962) dL_law_1962 rfl rfl ?_
  refine r_aload_n (pc := 1963) dL_law_1963 rfl rfl ?_
  refine r_iload (pc := 1964) dL_law_1964 rfl ?_
  refine r_iconst (pc := 1966) (v := 1) dL_law_1966 (by decide) ?_
  refine r_iadd (pc := 1967) dL_law_1967 ?_
  refine r_sld (pc := 1968) (i := Int32.ofNat n + 1) hX0 dL_law_1968 (gVin (c := 1) (by omega) hL) ?_
  refine r_aload_n (pc := 1969) dL_law_1969 rfl rfl ?_
  refine r_callSW (pc := 1970) [.ref _, .int _, .ref _] (tL_save _ hlt _ _ hF0 _ _ _ q1 _ hk) ⟨rfl, rfl⟩ cd_L_save wL_212 nm_L_save rfl (by rw [hRm0]; decide) rfl (Nat.le_of_ble_eq_true rfl) dL_law_1970 (by rw [hRm0]; exact hcs) ?_
  obtain ⟨Y1, hY1⟩ : ∃ Y1, Y1 = gYs Y (gUo Y.2.1 o) ((gCs Y).1 + 1) ((gCs Y).2 + 6) := ⟨_, rfl⟩
  have hF1 : gFull Y1.2.1 := by rw [hY1, gYs_u]; exact gUo_full hF0
  have hX1 : gScr Y1 L xs := by rw [hY1]; exact gYs_X hX0
  have hnL1 : gNL Y1 = 7 := by rw [hY1, gYs_nL]; exact hnL0
  have hRm1 : gRm Y1 = room_1 := by rw [hY1, gYs_Rm]; exact hRm0
  have hU1 : Y1.2.1 = gUo Y.2.1 o := by rw [hY1, gYs_u]
  have hc1 := hc (gUo Y.2.1 o) (gUo_full hF0)
  rw [← hY1] at hc1 ⊢
  refine r_istore (pc := 1973) dL_law_1973 (by rw [hnL1]; decide) rfl ?_
  refine r_aload_n (pc := 1975) dL_law_1975 rfl rfl ?_
  refine r_aload_n (pc := 1976) dL_law_1976 rfl rfl ?_
  refine r_iload (pc := 1977) dL_law_1977 rfl ?_
  refine r_iconst (pc := 1979) (v := 1) dL_law_1979 (by decide) ?_
  refine r_iadd (pc := 1980) dL_law_1980 ?_
  refine r_sld (pc := 1981) (i := Int32.ofNat n + 1) hX1 dL_law_1981 (gVin (c := 1) (by omega) hL) ?_
  refine r_callV (kd := 5) (pc := 1982) [.int _] (tX6_save _ _ _ hF1 _ _ _ q2) ⟨rfl, rfl⟩ cd_X6_save wL_214 nm_X6_save rfl (by rw [hRm1]; decide) rfl (Nat.le_of_ble_eq_true rfl) rfl (by decide) (gO5 hF1) dL_law_1982 ?_
  refine r_istore (pc := 1985) dL_law_1985 (by rw [hnL1]; decide) rfl ?_
  refine r_aload_n (pc := 1987) dL_law_1987 rfl rfl ?_
  refine r_callV (kd := 5) (pc := 1988) [] (tX6_thrown _ _ _ hF1 _ _ q3) ⟨rfl, rfl⟩ cd_X6_thrown wL_117 nm_X6_thrown rfl (by rw [hRm1]; decide) rfl (Nat.le_of_ble_eq_true rfl) rfl (by decide) (gO5 hF1) dL_law_1988 ?_
  refine r_iload (pc := 1991) dL_law_1991 rfl ?_
  refine r_icmpC_eq (pc := 1993) (tgt := 1998) dL_law_1993 (by decide) (fun _ => ?_) (fun g => absurd rfl g)
  refine r_iload (pc := 1998) dL_law_1998 rfl ?_
  refine r_ifC_ne (pc := 2000) (tgt := 2015) dL_law_2000 (by decide) (fun hk0 => ?_) (fun hk0 => ?_)
  · refine r_goto (pc := 2015) (tgt := 2074) dL_law_2015 (by decide) ?_
    exact r_mask [true, true, true, true, true, false, false] rfl hc1
  · subst hk0
    have hz : o.2.1 = 0 := gKz hk (by decide)
    have hv := hv hz
    subst hv
    refine r_aload_n (pc := 2003) dL_law_2003 rfl rfl ?_
    refine r_iconst (pc := 2004) (v := 0) dL_law_2004 (by decide) ?_
    refine r_lald (pc := 2005) dL_law_2005 (gOout hF1) ?_
    refine r_iload (pc := 2006) dL_law_2006 rfl ?_
    refine r_i2l (pc := 2008) dL_law_2008 ?_
    refine r_lcmp (pc := 2009) dL_law_2009 ?_
    refine r_ifC_eq (pc := 2010) (tgt := 2015) dL_law_2010 (by decide) (fun _ => ?_) (fun g => absurd ((lg_cmp_eq _ _).mpr (by rw [hU1]; unfold gUo; rw [if_pos hz]; rfl)) g)
    refine r_goto (pc := 2015) (tgt := 2074) dL_law_2015 (by decide) ?_
    exact r_mask [true, true, true, true, true, false, false] rfl hc1
set_option maxHeartbeats 4000000 in
set_option maxRecDepth 100000 in
theorem law_c29 {Y : gY} {L n : Nat} {xs : Nat → Int32} (hF0 : gFull Y.2.1) (hX0 : gScr Y L xs) (hn : n + 5 ≤ L) (hL : L ≤ 2560) (hnL0 : gNL Y = 7) (hRm0 : gRm Y = room_1) (hlt : (gLn Y).stackTraces = false) (hcs : (gCs Y).1 + 1 ≤ 601024 ∧ (gCs Y).2 + 6 ≤ 7293034) (m m3 : gM) (hq : gOk [1, 3] (fX5_restore (gSc xs n 1) m) (fun q => fX6_restore (gSc xs n 1) q) m3) (hc : ∀ u1 : gU, gFull u1 → AW (gYs Y u1 ((gCs Y).1 + 1) ((gCs Y).2 + 6)) cL_law RL 2074 (gLs n) [] m3) : AW Y cL_law RL 2018 (gLs n) [] m := by
  obtain ⟨o, k, m2, b, q1, hk, q2, q3, hv⟩ := hq
  unfold gLs at hc ⊢
  refine r_aload_n (pc := 2018) dL_law_2018 rfl rfl ?_
  refine r_aload_n (pc := 2019) dL_law_2019 rfl rfl ?_
  refine r_iload (pc := 2020) dL_law_2020 rfl ?_
  refine r_iconst (pc := 2022) (v := 1) dL_law_2022 (by decide) ?_
  refine r_iadd (pc := 2023) dL_law_2023 ?_
  refine r_sld (pc := 2024) (i := Int32.ofNat n + 1) hX0 dL_law_2024 (gVin (c := 1) (by omega) hL) ?_
  refine r_aload_n (pc := 2025) dL_law_2025 rfl rfl ?_
  refine r_callSW (pc := 2026) [.ref _, .int _, .ref _] (tL_restore _ hlt _ _ hF0 _ _ _ q1 _ hk) ⟨rfl, rfl⟩ cd_L_restore wL_215 nm_L_restore rfl (by rw [hRm0]; decide) rfl (Nat.le_of_ble_eq_true rfl) dL_law_2026 (by rw [hRm0]; exact hcs) ?_
  obtain ⟨Y1, hY1⟩ : ∃ Y1, Y1 = gYs Y (gUo Y.2.1 o) ((gCs Y).1 + 1) ((gCs Y).2 + 6) := ⟨_, rfl⟩
  have hF1 : gFull Y1.2.1 := by rw [hY1, gYs_u]; exact gUo_full hF0
  have hX1 : gScr Y1 L xs := by rw [hY1]; exact gYs_X hX0
  have hnL1 : gNL Y1 = 7 := by rw [hY1, gYs_nL]; exact hnL0
  have hRm1 : gRm Y1 = room_1 := by rw [hY1, gYs_Rm]; exact hRm0
  have hU1 : Y1.2.1 = gUo Y.2.1 o := by rw [hY1, gYs_u]
  have hc1 := hc (gUo Y.2.1 o) (gUo_full hF0)
  rw [← hY1] at hc1 ⊢
  refine r_istore (pc := 2029) dL_law_2029 (by rw [hnL1]; decide) rfl ?_
  refine r_aload_n (pc := 2031) dL_law_2031 rfl rfl ?_
  refine r_aload_n (pc := 2032) dL_law_2032 rfl rfl ?_
  refine r_iload (pc := 2033) dL_law_2033 rfl ?_
  refine r_iconst (pc := 2035) (v := 1) dL_law_2035 (by decide) ?_
  refine r_iadd (pc := 2036) dL_law_2036 ?_
  refine r_sld (pc := 2037) (i := Int32.ofNat n + 1) hX1 dL_law_2037 (gVin (c := 1) (by omega) hL) ?_
  refine r_callV (kd := 5) (pc := 2038) [.int _] (tX6_restore _ _ _ hF1 _ _ _ q2) ⟨rfl, rfl⟩ cd_X6_restore wL_217 nm_X6_restore rfl (by rw [hRm1]; decide) rfl (Nat.le_of_ble_eq_true rfl) rfl (by decide) (gO5 hF1) dL_law_2038 ?_
  refine r_istore (pc := 2041) dL_law_2041 (by rw [hnL1]; decide) rfl ?_
  refine r_aload_n (pc := 2043) dL_law_2043 rfl rfl ?_
  refine r_callV (kd := 5) (pc := 2044) [] (tX6_thrown _ _ _ hF1 _ _ q3) ⟨rfl, rfl⟩ cd_X6_thrown wL_117 nm_X6_thrown rfl (by rw [hRm1]; decide) rfl (Nat.le_of_ble_eq_true rfl) rfl (by decide) (gO5 hF1) dL_law_2044 ?_
  refine r_iload (pc := 2047) dL_law_2047 rfl ?_
  refine r_icmpC_eq (pc := 2049) (tgt := 2054) dL_law_2049 (by decide) (fun _ => ?_) (fun g => absurd rfl g)
  refine r_iload (pc := 2054) dL_law_2054 rfl ?_
  refine r_ifC_ne (pc := 2056) (tgt := 2071) dL_law_2056 (by decide) (fun hk0 => ?_) (fun hk0 => ?_)
  · refine r_goto (pc := 2071) (tgt := 2074) dL_law_2071 (by decide) ?_
    exact r_mask [true, true, true, true, true, false, false] rfl hc1
  · subst hk0
    have hz : o.2.1 = 0 := gKz hk (by decide)
    have hv := hv hz
    subst hv
    refine r_aload_n (pc := 2059) dL_law_2059 rfl rfl ?_
    refine r_iconst (pc := 2060) (v := 0) dL_law_2060 (by decide) ?_
    refine r_lald (pc := 2061) dL_law_2061 (gOout hF1) ?_
    refine r_iload (pc := 2062) dL_law_2062 rfl ?_
    refine r_i2l (pc := 2064) dL_law_2064 ?_
    refine r_lcmp (pc := 2065) dL_law_2065 ?_
    refine r_ifC_eq (pc := 2066) (tgt := 2071) dL_law_2066 (by decide) (fun _ => ?_) (fun g => absurd ((lg_cmp_eq _ _).mpr (by rw [hU1]; unfold gUo; rw [if_pos hz]; rfl)) g)
    refine r_goto (pc := 2071) (tgt := 2074) dL_law_2071 (by decide) ?_
    exact r_mask [true, true, true, true, true, false, false] rfl hc1
