/-! the law's body: its bytecode does its function -/
set_option maxHeartbeats 8000000 in
set_option maxRecDepth 100000 in
theorem taL_law {Y : gY} (hlt : (gLn Y).stackTraces = false) (hF : gFull Y.2.1) (hnL : gNL Y = 9) (hRm : gRm Y = room_1) (hB : gBud Y 60000) (heL : gEndL Y) (L : Nat) (xs : Nat → Int32) (hLe : Y.1.2.2.1 30001 = L) (hxs : gXs Y.1 = xs) (hL : L < 2147483648) (hO0 : gIn Y.2.1 0 4 0) (hO1 : gIn Y.2.1 5693 4 0) (s : gS × Nat) (o : gS × Int32) (h : aL_lawB L xs s = some o) (ho : o.2 = 1) : AL gI2 Y cL_law RL 16 [some (.ref 30000), some (.ref 0), some (.ref 5693), none, none, none, none, none, none] [] s := by
  unfold aL_lawB at h
  intro _ hI
  refine r_bipush (pc := 16) (v := 14) dL_law_16 (by decide) ?_
  refine r_aload_n (pc := 18) dL_law_18 rfl rfl ?_
  refine r_iconst (pc := 19) (v := 0) dL_law_19 (by decide) ?_
  obtain ⟨s1, x2, q3, eq3, kq3, h⟩ := gCN_some h
  refine r_callA (pc := 20) [.ref _, .int _] (taL_cell _ _ _ hLe hxs hL _ _ _ q3) cd_L_cell wL_213 nm_L_cell rfl (by rw [hRm]; decide) rfl (Nat.le_of_ble_eq_true rfl) dL_law_20 hB eq3 kq3 hI (fun _ hI => ?_)
  refine r_bipush (pc := 23) (v := 23) dL_law_23 (by decide) ?_
  refine r_iremc (pc := 25) dL_law_25 (by decide) ?_
  refine r_iadd (pc := 26) dL_law_26 ?_
  refine r_istore_nL (pc := 27) dL_law_27 rfl (by rw [gYn_nL, hnL]; decide) h (fun x4 h => ?_)
  refine r_aload_n (pc := 28) dL_law_28 rfl rfl ?_
  refine r_iconst (pc := 29) (v := 1) dL_law_29 (by decide) ?_
  obtain ⟨s5, x6, q7, eq7, kq7, h⟩ := gCN_some h
  refine r_callA (pc := 30) [.ref _, .int _] (taL_cell _ _ _ hLe hxs hL _ _ _ q7) cd_L_cell wL_213 nm_L_cell rfl (by rw [hRm]; decide) rfl (Nat.le_of_ble_eq_true rfl) dL_law_30 hB eq7 kq7 hI (fun _ hI => ?_)
  refine r_istore (pc := 33) dL_law_33 (by rw [gYn_nL, hnL]; decide) rfl ?_
  refine r_aload_n (pc := 35) dL_law_35 rfl rfl ?_
  refine r_bipush (pc := 36) (v := 9) dL_law_36 (by decide) ?_
  refine r_iload (pc := 38) dL_law_38 rfl ?_
  refine r_iconst (pc := 40) (v := 4) dL_law_40 (by decide) ?_
  refine r_iremc (pc := 41) dL_law_41 (by decide) ?_
  refine r_iload (pc := 42) dL_law_42 rfl ?_
  refine r_iconst (pc := 44) (v := 4) dL_law_44 (by decide) ?_
  refine r_idivc (pc := 45) dL_law_45 (by decide) ?_
  refine r_ldc (pc := 46) (v := 10000000) dL_law_46 cL_197 ?_
  refine r_iremc (pc := 48) dL_law_48 (by decide) ?_
  refine r_iconst (pc := 49) (v := 0) dL_law_49 (by decide) ?_
  obtain ⟨s8, x9, q10, eq10, kq10, h⟩ := gCN_some h
  refine r_callA (pc := 50) [.ref _, .int _, .int _, .int _, .int _] (taL_call _ hlt _ _ hF _ _ _ _ _ _ _ q10 hO0) cd_L_call wL_190 nm_L_call rfl (by rw [hRm]; decide) rfl (Nat.le_of_ble_eq_true rfl) dL_law_50 hB eq10 kq10 hI (fun _ hI => ?_)
  refine r_jnK h (fun (k13 : Int32 → gS × Nat → Option (gS × Int32)) => ∀ (x11 : Int32) (s12 : gS × Nat), k13 x11 s12 = some o → AL gI2 Y cL_law RL 134 [some (.ref 30000), some (.ref 0), some (.ref 5693), some (.int x4), none, none, none, none, none] [.int x11] s12) (fun x11 s12 h => ?_) (fun k13 hJ14 h => ?_)
  · intro _ hI
    refine r_istore (pc := 134) dL_law_134 (by rw [gYn_nL, hnL]; decide) rfl ?_
    refine r_iconst (pc := 136) (v := 0) dL_law_136 (by decide) ?_
    refine r_istore (pc := 137) dL_law_137 (by rw [gYn_nL, hnL]; decide) rfl ?_
    refine r_jnK h (fun (k17 : Int32 → gS × Nat → Option (gS × Int32)) => ∀ (x15 : Int32) (s16 : gS × Nat), k17 x15 s16 = some o → AL gI2 Y cL_law RL 296 [none, none, none, none, none, some (.int x15), none, none, none] [] s16) (fun x15 s16 h => ?_) (fun k17 hJ18 h => ?_)
    · intro _ hI
      refine r_iload (pc := 296) dL_law_296 rfl ?_
      exact r_lretA (I := gI2) dL_law_298 h ho heL
    have L66 : ∀ (n64 : Nat) (v67 : Int32) (v68 : Int32) (m69 : gS × Nat), fL_law_L139 L xs x4 k17 n64 v67 v68 m69 = some o → AL gI2 Y cL_law RL 139 [some (.ref 30000), some (.ref 0), some (.ref 5693), some (.int x4), none, some (.int v67), some (.int v68), none, none] [] m69 := by
      intro n64
      induction n64 with
      | zero =>
        intro v67 v68 m69 h
        exact absurd h (by simp [fL_law_L139])
      | succ n64 ih65 =>
        intro v67 v68 m69 h
        rw [fL_law_L139] at h
        intro _ hI
        refine r_iload (pc := 139) dL_law_139 rfl ?_
        refine r_iload_n (pc := 141) dL_law_141 rfl rfl ?_
        refine r_icmp_ge (pc := 142) (tgt := 296) dL_law_142 (by decide) h (fun h => ?_) (fun h => ?_)
        · exact r_mask [false, false, false, false, false, true, false, false, false] rfl (hJ18 _ _ h _ hI)
        · refine r_iload (pc := 145) dL_law_145 rfl ?_
          refine r_if_eq (pc := 147) (tgt := 296) dL_law_147 (by decide) h (fun h => ?_) (fun h => ?_)
          · exact r_mask [false, false, false, false, false, true, false, false, false] rfl (hJ18 _ _ h _ hI)
          · refine r_aload_n (pc := 150) dL_law_150 rfl rfl ?_
            refine r_iconst (pc := 151) (v := 2) dL_law_151 (by decide) ?_
            refine r_iload (pc := 152) dL_law_152 rfl ?_
            refine r_iadd (pc := 154) dL_law_154 ?_
            obtain ⟨s70, x71, q72, eq72, kq72, h⟩ := gCN_some h
            refine r_callA (pc := 155) [.ref _, .int _] (taL_cell _ _ _ hLe hxs hL _ _ _ q72) cd_L_cell wL_213 nm_L_cell rfl (by rw [hRm]; decide) rfl (Nat.le_of_ble_eq_true rfl) dL_law_155 hB eq72 kq72 hI (fun _ hI => ?_)
            refine r_istore (pc := 158) dL_law_158 (by rw [gYn_nL, hnL]; decide) rfl ?_
            refine r_aload_n (pc := 160) dL_law_160 rfl rfl ?_
            refine r_iload (pc := 161) dL_law_161 rfl ?_
            obtain ⟨s73, x74, q75, eq75, kq75, h⟩ := gCN_some h
            refine r_callA (pc := 163) [.ref _, .int _] (taL_act _ hlt _ _ hF _ _ _ _ q75 hO0) cd_L_act wL_217 nm_L_act rfl (by rw [hRm]; decide) rfl (Nat.le_of_ble_eq_true rfl) dL_law_163 hB eq75 kq75 hI (fun _ hI => ?_)
            refine r_istore (pc := 166) dL_law_166 (by rw [gYn_nL, hnL]; decide) rfl ?_
            refine r_aload_n (pc := 168) dL_law_168 rfl rfl ?_
            refine r_iload (pc := 169) dL_law_169 rfl ?_
            refine r_ldc (pc := 171) (v := 100000) dL_law_171 cL_220 ?_
            refine r_iremc (pc := 173) dL_law_173 (by decide) ?_
            obtain ⟨s76, x77, q78, eq78, kq78, h⟩ := gCN_some h
            refine r_callA (pc := 174) [.ref _, .int _] (taL_refuses _ hlt _ _ hF _ _ _ _ q78 hO1) cd_L_refuses wL_221 nm_L_refuses rfl (by rw [hRm]; decide) rfl (Nat.le_of_ble_eq_true rfl) dL_law_174 hB eq78 kq78 hI (fun _ hI => ?_)
            refine r_if_eq (pc := 177) (tgt := 287) dL_law_177 (by decide) h (fun h => ?_) (fun h => ?_)
            · refine r_iconst (pc := 287) (v := 0) dL_law_287 (by decide) ?_
              refine r_istore (pc := 288) dL_law_288 (by rw [gYn_nL, hnL]; decide) rfl ?_
              refine r_iinc (pc := 290) (d := 1) dL_law_290 rfl (by decide) (by rw [gYn_nL, hnL]; decide) h (fun x79 h => ?_)
              refine r_goto (pc := 293) (tgt := 139) dL_law_293 (by decide) ?_
              exact r_mask [true, true, true, true, false, true, true, false, false] rfl (ih65 _ _ _ h _ hI)
            · refine r_aload_n (pc := 180) dL_law_180 rfl rfl ?_
              refine r_iload (pc := 181) dL_law_181 rfl ?_
              obtain ⟨s80, x81, q82, eq82, kq82, h⟩ := gCN_some h
              refine r_callA (pc := 183) [.ref _, .int _] (taL_act _ hlt _ _ hF _ _ _ _ q82 hO1) cd_L_act wL_217 nm_L_act rfl (by rw [hRm]; decide) rfl (Nat.le_of_ble_eq_true rfl) dL_law_183 hB eq82 kq82 hI (fun _ hI => ?_)
              refine r_iload (pc := 186) dL_law_186 rfl ?_
              refine r_icmp_ne (pc := 188) (tgt := 287) dL_law_188 (by decide) h (fun h => ?_) (fun h => ?_)
              · refine r_iconst (pc := 287) (v := 0) dL_law_287 (by decide) ?_
                refine r_istore (pc := 288) dL_law_288 (by rw [gYn_nL, hnL]; decide) rfl ?_
                refine r_iinc (pc := 290) (d := 1) dL_law_290 rfl (by decide) (by rw [gYn_nL, hnL]; decide) h (fun x83 h => ?_)
                refine r_goto (pc := 293) (tgt := 139) dL_law_293 (by decide) ?_
                exact r_mask [true, true, true, true, false, true, true, false, false] rfl (ih65 _ _ _ h _ hI)
              · refine r_aload_n (pc := 191) dL_law_191 rfl rfl ?_
                refine r_iload (pc := 192) dL_law_192 rfl ?_
                refine r_sipush (pc := 194) (v := 1000) dL_law_194 (by decide) ?_
                refine r_iremc (pc := 197) dL_law_197 (by decide) ?_
                obtain ⟨s84, x85, q86, eq86, kq86, h⟩ := gCN_some h
                refine r_callA (pc := 198) [.ref _, .int _] (taL_refuses _ hlt _ _ hF _ _ _ _ q86 hO1) cd_L_refuses wL_221 nm_L_refuses rfl (by rw [hRm]; decide) rfl (Nat.le_of_ble_eq_true rfl) dL_law_198 hB eq86 kq86 hI (fun _ hI => ?_)
                refine r_if_eq (pc := 201) (tgt := 287) dL_law_201 (by decide) h (fun h => ?_) (fun h => ?_)
                · refine r_iconst (pc := 287) (v := 0) dL_law_287 (by decide) ?_
                  refine r_istore (pc := 288) dL_law_288 (by rw [gYn_nL, hnL]; decide) rfl ?_
                  refine r_iinc (pc := 290) (d := 1) dL_law_290 rfl (by decide) (by rw [gYn_nL, hnL]; decide) h (fun x87 h => ?_)
                  refine r_goto (pc := 293) (tgt := 139) dL_law_293 (by decide) ?_
                  exact r_mask [true, true, true, true, false, true, true, false, false] rfl (ih65 _ _ _ h _ hI)
                · refine r_aload_n (pc := 204) dL_law_204 rfl rfl ?_
                  refine r_aload_n (pc := 205) dL_law_205 rfl rfl ?_
                  refine r_iload (pc := 206) dL_law_206 rfl ?_
                  refine r_sipush (pc := 208) (v := 5000) dL_law_208 (by decide) ?_
                  refine r_iremc (pc := 211) dL_law_211 (by decide) ?_
                  obtain ⟨s88, x89, q90, eq90, kq90, h⟩ := gCN_some h
                  refine r_callA (pc := 212) [.ref _, .ref _, .int _] (taL_alike _ hlt _ _ hF _ _ _ _ _ q90 hO0 hO1) cd_L_alike wL_225 nm_L_alike rfl (by rw [hRm]; decide) rfl (Nat.le_of_ble_eq_true rfl) dL_law_212 hB eq90 kq90 hI (fun _ hI => ?_)
                  refine r_if_eq (pc := 215) (tgt := 287) dL_law_215 (by decide) h (fun h => ?_) (fun h => ?_)
                  · refine r_iconst (pc := 287) (v := 0) dL_law_287 (by decide) ?_
                    refine r_istore (pc := 288) dL_law_288 (by rw [gYn_nL, hnL]; decide) rfl ?_
                    refine r_iinc (pc := 290) (d := 1) dL_law_290 rfl (by decide) (by rw [gYn_nL, hnL]; decide) h (fun x91 h => ?_)
                    refine r_goto (pc := 293) (tgt := 139) dL_law_293 (by decide) ?_
                    exact r_mask [true, true, true, true, false, true, true, false, false] rfl (ih65 _ _ _ h _ hI)
                  · refine r_iload (pc := 218) dL_law_218 rfl ?_
                    refine r_iconst (pc := 220) (v := 2) dL_law_220 (by decide) ?_
                    refine r_iremc (pc := 221) dL_law_221 (by decide) ?_
                    refine r_jnK h (fun (k93 : gS × Nat → Option (gS × Int32)) => ∀ (s92 : gS × Nat), k93 s92 = some o → AL gI2 Y cL_law RL 250 [some (.ref 30000), some (.ref 0), some (.ref 5693), some (.int x4), none, none, some (.int v68), some (.int x71), none] [] s92) (fun s92 h => ?_) (fun k93 hJ94 h => ?_)
                    · intro _ hI
                      refine r_aload_n (pc := 250) dL_law_250 rfl rfl ?_
                      refine r_aload_n (pc := 251) dL_law_251 rfl rfl ?_
                      refine r_iload (pc := 252) dL_law_252 rfl ?_
                      refine r_bipush (pc := 254) (v := 7) dL_law_254 (by decide) ?_
                      refine r_idivc (pc := 256) dL_law_256 (by decide) ?_
                      obtain ⟨s95, x96, q97, eq97, kq97, h⟩ := gCN_some h
                      refine r_callA (pc := 257) [.ref _, .ref _, .int _] (taL_goesOn _ hlt _ _ hF _ _ _ _ _ q97 hO0 hO1) cd_L_goesOn wL_232 nm_L_goesOn rfl (by rw [hRm]; decide) rfl (Nat.le_of_ble_eq_true rfl) dL_law_257 hB eq97 kq97 hI (fun _ hI => ?_)
                      refine r_if_eq (pc := 260) (tgt := 287) dL_law_260 (by decide) h (fun h => ?_) (fun h => ?_)
                      · refine r_iconst (pc := 287) (v := 0) dL_law_287 (by decide) ?_
                        refine r_istore (pc := 288) dL_law_288 (by rw [gYn_nL, hnL]; decide) rfl ?_
                        refine r_iinc (pc := 290) (d := 1) dL_law_290 rfl (by decide) (by rw [gYn_nL, hnL]; decide) h (fun x98 h => ?_)
                        refine r_goto (pc := 293) (tgt := 139) dL_law_293 (by decide) ?_
                        exact r_mask [true, true, true, true, false, true, true, false, false] rfl (ih65 _ _ _ h _ hI)
                      · refine r_iload (pc := 263) dL_law_263 rfl ?_
                        refine r_iconst (pc := 265) (v := 3) dL_law_265 (by decide) ?_
                        refine r_iremc (pc := 266) dL_law_266 (by decide) ?_
                        refine r_if_gt (pc := 267) (tgt := 283) dL_law_267 (by decide) h (fun h => ?_) (fun h => ?_)
                        · refine r_iconst (pc := 283) (v := 1) dL_law_283 (by decide) ?_
                          refine r_goto (pc := 284) (tgt := 288) dL_law_284 (by decide) ?_
                          refine r_istore (pc := 288) dL_law_288 (by rw [gYn_nL, hnL]; decide) rfl ?_
                          refine r_iinc (pc := 290) (d := 1) dL_law_290 rfl (by decide) (by rw [gYn_nL, hnL]; decide) h (fun x99 h => ?_)
                          refine r_goto (pc := 293) (tgt := 139) dL_law_293 (by decide) ?_
                          exact r_mask [true, true, true, true, false, true, true, false, false] rfl (ih65 _ _ _ h _ hI)
                        · refine r_aload_n (pc := 270) dL_law_270 rfl rfl ?_
                          refine r_aload_n (pc := 271) dL_law_271 rfl rfl ?_
                          refine r_iload (pc := 272) dL_law_272 rfl ?_
                          refine r_bipush (pc := 274) (v := 11) dL_law_274 (by decide) ?_
                          refine r_idivc (pc := 276) dL_law_276 (by decide) ?_
                          obtain ⟨s100, x101, q102, eq102, kq102, h⟩ := gCN_some h
                          refine r_callA (pc := 277) [.ref _, .ref _, .int _] (taL_best _ hlt _ _ hF _ _ _ _ _ q102 hO0 hO1) cd_L_best wL_235 nm_L_best rfl (by rw [hRm]; decide) rfl (Nat.le_of_ble_eq_true rfl) dL_law_277 hB eq102 kq102 hI (fun _ hI => ?_)
                          refine r_jn1 h (fun x103 => AL gI2 Y cL_law RL 288 [some (.ref 30000), some (.ref 0), some (.ref 5693), some (.int x4), none, none, some (.int v68), none, none] [.int x103] s100) (fun x103 h => ?_) (fun hJ104 => ?_)
                          · intro _ hI
                            refine r_istore (pc := 288) dL_law_288 (by rw [gYn_nL, hnL]; decide) rfl ?_
                            refine r_iinc (pc := 290) (d := 1) dL_law_290 rfl (by decide) (by rw [gYn_nL, hnL]; decide) h (fun x106 h => ?_)
                            refine r_goto (pc := 293) (tgt := 139) dL_law_293 (by decide) ?_
                            exact r_mask [true, true, true, true, false, true, true, false, false] rfl (ih65 _ _ _ h _ hI)
                          · refine r_ifC_eq (pc := 280) (tgt := 287) dL_law_280 (by decide) (fun g105 => ?_) (fun g105 => ?_)
                            · refine r_iconst (pc := 287) (v := 0) dL_law_287 (by decide) ?_
                              exact r_mask [true, true, true, true, false, false, true, false, false] rfl (hJ104 _ (by rw [if_pos g105]) _ hI)
                            · refine r_iconst (pc := 283) (v := 1) dL_law_283 (by decide) ?_
                              refine r_goto (pc := 284) (tgt := 288) dL_law_284 (by decide) ?_
                              exact r_mask [true, true, true, true, false, false, true, false, false] rfl (hJ104 _ (by rw [if_neg g105]) _ hI)
                    refine r_if_ne (pc := 222) (tgt := 239) dL_law_222 (by decide) h (fun h => ?_) (fun h => ?_)
                    · refine r_aload_n (pc := 239) dL_law_239 rfl rfl ?_
                      refine r_iload (pc := 240) dL_law_240 rfl ?_
                      refine r_iconst (pc := 242) (v := 3) dL_law_242 (by decide) ?_
                      refine r_idivc (pc := 243) dL_law_243 (by decide) ?_
                      obtain ⟨s107, x108, q109, eq109, kq109, h⟩ := gCN_some h
                      refine r_callA (pc := 244) [.ref _, .int _] (taL_holds _ hlt _ _ hF _ _ _ _ q109 hO1) cd_L_holds wL_229 nm_L_holds rfl (by rw [hRm]; decide) rfl (Nat.le_of_ble_eq_true rfl) dL_law_244 hB eq109 kq109 hI (fun _ hI => ?_)
                      refine r_if_eq (pc := 247) (tgt := 287) dL_law_247 (by decide) h (fun h => ?_) (fun h => ?_)
                      · refine r_iconst (pc := 287) (v := 0) dL_law_287 (by decide) ?_
                        refine r_istore (pc := 288) dL_law_288 (by rw [gYn_nL, hnL]; decide) rfl ?_
                        refine r_iinc (pc := 290) (d := 1) dL_law_290 rfl (by decide) (by rw [gYn_nL, hnL]; decide) h (fun x110 h => ?_)
                        refine r_goto (pc := 293) (tgt := 139) dL_law_293 (by decide) ?_
                        exact r_mask [true, true, true, true, false, true, true, false, false] rfl (ih65 _ _ _ h _ hI)
                      · exact r_mask [true, true, true, true, false, false, true, true, false] rfl (hJ94 _ h _ hI)
                    · refine r_aload_n (pc := 225) dL_law_225 rfl rfl ?_
                      refine r_iload (pc := 226) dL_law_226 rfl ?_
                      refine r_iconst (pc := 228) (v := 3) dL_law_228 (by decide) ?_
                      refine r_idivc (pc := 229) dL_law_229 (by decide) ?_
                      obtain ⟨s111, x112, q113, eq113, kq113, h⟩ := gCN_some h
                      refine r_callA (pc := 230) [.ref _, .int _] (taL_holds _ hlt _ _ hF _ _ _ _ q113 hO0) cd_L_holds wL_229 nm_L_holds rfl (by rw [hRm]; decide) rfl (Nat.le_of_ble_eq_true rfl) dL_law_230 hB eq113 kq113 hI (fun _ hI => ?_)
                      refine r_if_eq (pc := 233) (tgt := 287) dL_law_233 (by decide) h (fun h => ?_) (fun h => ?_)
                      · refine r_iconst (pc := 287) (v := 0) dL_law_287 (by decide) ?_
                        refine r_istore (pc := 288) dL_law_288 (by rw [gYn_nL, hnL]; decide) rfl ?_
                        refine r_iinc (pc := 290) (d := 1) dL_law_290 rfl (by decide) (by rw [gYn_nL, hnL]; decide) h (fun x114 h => ?_)
                        refine r_goto (pc := 293) (tgt := 139) dL_law_293 (by decide) ?_
                        exact r_mask [true, true, true, true, false, true, true, false, false] rfl (ih65 _ _ _ h _ hI)
                      · refine r_goto (pc := 236) (tgt := 250) dL_law_236 (by decide) ?_
                        exact r_mask [true, true, true, true, false, false, true, true, false] rfl (hJ94 _ h _ hI)
    exact r_mask [true, true, true, true, false, true, true, false, false] rfl (L66 _ _ _ _ h _ hI)
  refine r_if_ne (pc := 53) (tgt := 133) dL_law_53 (by decide) h (fun h => ?_) (fun h => ?_)
  · refine r_iconst (pc := 133) (v := 0) dL_law_133 (by decide) ?_
    exact r_mask [true, true, true, true, false, false, false, false, false] rfl (hJ14 _ _ h _ hI)
  · refine r_aload_n (pc := 56) dL_law_56 rfl rfl ?_
    refine r_bipush (pc := 57) (v := 9) dL_law_57 (by decide) ?_
    refine r_iload (pc := 59) dL_law_59 rfl ?_
    refine r_iconst (pc := 61) (v := 4) dL_law_61 (by decide) ?_
    refine r_iremc (pc := 62) dL_law_62 (by decide) ?_
    refine r_iload (pc := 63) dL_law_63 rfl ?_
    refine r_iconst (pc := 65) (v := 4) dL_law_65 (by decide) ?_
    refine r_idivc (pc := 66) dL_law_66 (by decide) ?_
    refine r_ldc (pc := 67) (v := 10000000) dL_law_67 cL_197 ?_
    refine r_iremc (pc := 69) dL_law_69 (by decide) ?_
    refine r_iconst (pc := 70) (v := 0) dL_law_70 (by decide) ?_
    obtain ⟨s115, x116, q117, eq117, kq117, h⟩ := gCN_some h
    refine r_callA (pc := 71) [.ref _, .int _, .int _, .int _, .int _] (taL_call _ hlt _ _ hF _ _ _ _ _ _ _ q117 hO1) cd_L_call wL_190 nm_L_call rfl (by rw [hRm]; decide) rfl (Nat.le_of_ble_eq_true rfl) dL_law_71 hB eq117 kq117 hI (fun _ hI => ?_)
    refine r_if_ne (pc := 74) (tgt := 133) dL_law_74 (by decide) h (fun h => ?_) (fun h => ?_)
    · refine r_iconst (pc := 133) (v := 0) dL_law_133 (by decide) ?_
      exact r_mask [true, true, true, true, false, false, false, false, false] rfl (hJ14 _ _ h _ hI)
    · refine r_aload_n (pc := 77) dL_law_77 rfl rfl ?_
      refine r_bipush (pc := 78) (v := 9) dL_law_78 (by decide) ?_
      refine r_iload (pc := 80) dL_law_80 rfl ?_
      refine r_bipush (pc := 82) (v := 7) dL_law_82 (by decide) ?_
      refine r_idivc (pc := 84) dL_law_84 (by decide) ?_
      refine r_iconst (pc := 85) (v := 4) dL_law_85 (by decide) ?_
      refine r_iremc (pc := 86) dL_law_86 (by decide) ?_
      refine r_iload (pc := 87) dL_law_87 rfl ?_
      refine r_bipush (pc := 89) (v := 9) dL_law_89 (by decide) ?_
      refine r_idivc (pc := 91) dL_law_91 (by decide) ?_
      refine r_ldc (pc := 92) (v := 10000000) dL_law_92 cL_197 ?_
      refine r_iremc (pc := 94) dL_law_94 (by decide) ?_
      refine r_iconst (pc := 95) (v := 0) dL_law_95 (by decide) ?_
      obtain ⟨s118, x119, q120, eq120, kq120, h⟩ := gCN_some h
      refine r_callA (pc := 96) [.ref _, .int _, .int _, .int _, .int _] (taL_call _ hlt _ _ hF _ _ _ _ _ _ _ q120 hO0) cd_L_call wL_190 nm_L_call rfl (by rw [hRm]; decide) rfl (Nat.le_of_ble_eq_true rfl) dL_law_96 hB eq120 kq120 hI (fun _ hI => ?_)
      refine r_iconst (pc := 99) (v := 1) dL_law_99 (by decide) ?_
      refine r_icmp_ne (pc := 100) (tgt := 133) dL_law_100 (by decide) h (fun h => ?_) (fun h => ?_)
      · refine r_iconst (pc := 133) (v := 0) dL_law_133 (by decide) ?_
        exact r_mask [true, true, true, true, false, false, false, false, false] rfl (hJ14 _ _ h _ hI)
      · refine r_aload_n (pc := 103) dL_law_103 rfl rfl ?_
        refine r_bipush (pc := 104) (v := 9) dL_law_104 (by decide) ?_
        refine r_iload (pc := 106) dL_law_106 rfl ?_
        refine r_bipush (pc := 108) (v := 7) dL_law_108 (by decide) ?_
        refine r_idivc (pc := 110) dL_law_110 (by decide) ?_
        refine r_iconst (pc := 111) (v := 4) dL_law_111 (by decide) ?_
        refine r_iremc (pc := 112) dL_law_112 (by decide) ?_
        refine r_iload (pc := 113) dL_law_113 rfl ?_
        refine r_bipush (pc := 115) (v := 9) dL_law_115 (by decide) ?_
        refine r_idivc (pc := 117) dL_law_117 (by decide) ?_
        refine r_ldc (pc := 118) (v := 10000000) dL_law_118 cL_197 ?_
        refine r_iremc (pc := 120) dL_law_120 (by decide) ?_
        refine r_iconst (pc := 121) (v := 0) dL_law_121 (by decide) ?_
        obtain ⟨s121, x122, q123, eq123, kq123, h⟩ := gCN_some h
        refine r_callA (pc := 122) [.ref _, .int _, .int _, .int _, .int _] (taL_call _ hlt _ _ hF _ _ _ _ _ _ _ q123 hO1) cd_L_call wL_190 nm_L_call rfl (by rw [hRm]; decide) rfl (Nat.le_of_ble_eq_true rfl) dL_law_122 hB eq123 kq123 hI (fun _ hI => ?_)
        refine r_iconst (pc := 125) (v := 1) dL_law_125 (by decide) ?_
        refine r_icmp_ne (pc := 126) (tgt := 133) dL_law_126 (by decide) h (fun h => ?_) (fun h => ?_)
        · refine r_iconst (pc := 133) (v := 0) dL_law_133 (by decide) ?_
          exact r_mask [true, true, true, true, false, false, false, false, false] rfl (hJ14 _ _ h _ hI)
        · refine r_iconst (pc := 129) (v := 1) dL_law_129 (by decide) ?_
          refine r_goto (pc := 130) (tgt := 134) dL_law_130 (by decide) ?_
          exact r_mask [true, true, true, true, false, false, false, false, false] rfl (hJ14 _ _ h _ hI)
