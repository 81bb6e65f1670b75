/-! the law's call: its bytecode does its function -/
set_option maxHeartbeats 4000000 in
set_option maxRecDepth 100000 in
theorem tL_thrown (l : Launch) (G : gX) (u : gU) (hF : gFull u) (p1 : Int32) (m : gM) (o : gM × Int32) (h : fL_thrown p1 m = some o)  : gMet l G u yL_thrown (.code yL_thrown cL_thrown 1 (some .boolean)) rmL_thrown [.int p1] m o.1 (some (.int o.2)) := by
  refine gMet_of (own := RL) (k := 0) (by decide) rfl ⟨rfl, rfl⟩ (Nat.le_of_ble_eq_true rfl) [some (.int p1)] rfl (fun Y hG hu hnL hLn hRm he => ?_)
  subst hG hu hLn
  unfold fL_thrown at h
  refine r_iload_n (pc := 0) dL_thrown_0 rfl rfl ?_
  refine r_ldc (pc := 1) (v := (-9999001)) dL_thrown_1 cL_15 ?_
  refine r_icmp_eq (pc := 3) (tgt := 18) dL_thrown_3 (by decide) h (fun h => ?_) (fun h => ?_)
  · refine r_iconst (pc := 18) (v := 1) dL_thrown_18 (by decide) ?_
    refine r_goto (pc := 19) (tgt := 23) dL_thrown_19 (by decide) ?_
    exact r_zretH dL_thrown_23 rfl h he
  · refine r_iload_n (pc := 6) dL_thrown_6 rfl rfl ?_
    refine r_ldc (pc := 7) (v := (-9999002)) dL_thrown_7 cL_18 ?_
    refine r_icmp_eq (pc := 9) (tgt := 18) dL_thrown_9 (by decide) h (fun h => ?_) (fun h => ?_)
    · refine r_iconst (pc := 18) (v := 1) dL_thrown_18 (by decide) ?_
      refine r_goto (pc := 19) (tgt := 23) dL_thrown_19 (by decide) ?_
      exact r_zretH dL_thrown_23 rfl h he
    · refine r_iload_n (pc := 12) dL_thrown_12 rfl rfl ?_
      refine r_ldc (pc := 13) (v := (-9999003)) dL_thrown_13 cL_37 ?_
      refine r_icmp_ne (pc := 15) (tgt := 22) dL_thrown_15 (by decide) h (fun h => ?_) (fun h => ?_)
      · refine r_iconst (pc := 22) (v := 0) dL_thrown_22 (by decide) ?_
        exact r_zretH dL_thrown_23 rfl h he
      · refine r_iconst (pc := 18) (v := 1) dL_thrown_18 (by decide) ?_
        refine r_goto (pc := 19) (tgt := 23) dL_thrown_19 (by decide) ?_
        exact r_zretH dL_thrown_23 rfl h he
set_option maxHeartbeats 8000000 in
set_option maxRecDepth 100000 in
theorem tfL_call (l : Launch) (hlt : l.stackTraces = false) (G : gX) (u : gU) (hF : gFull u) (a1 : Nat) (p2 : Int32) (p3 : Int32) (p4 : Int32) (p5 : Int32) (t : gM) (o : gM × Int32) (h : fL_call a1 p2 p3 p4 p5 t = some o) (h1 : gIn u a1 4 0) : gMetA gEq l G u yL_call (.code yL_call cL_call 5 (some .int)) 10 191 1 [.ref a1, .int p2, .int p3, .int p4, .int p5] t o.1 (some (.int o.2)) := by
  refine gMetA_of (own := RL) (k := 0) (by decide) rfl (Nat.le_of_ble_eq_true rfl) [some (.ref a1), some (.int p2), some (.int p3), some (.int p4), some (.int p5)] rfl (fun Y hG hu hnL hLn hRm hB he => ?_)
  subst hG hu hLn
  unfold fL_call fL_callB at h
  generalize ((t, 0) : gM × Nat) = s at h ⊢
  intro _ hI
  refine r_iload_n (pc := 0) dL_call_0 rfl rfl ?_
  refine r_sw h (fun g1 h => ?_) (fun g1 h => ?_)
  · refine r_tabIn (pc := 1) (tgt := 108) (v := 0) dL_call_1 g1 (by decide) (by decide) rfl (by decide) ?_
    refine r_aload_n (pc := 108) dL_call_108 rfl rfl ?_
    refine r_iload_n (pc := 109) dL_call_109 rfl rfl ?_
    obtain ⟨s2, x3, q4, eq4, kq4, h⟩ := gCN_some h
    refine r_callAW (pc := 110) [.ref _, .int _] (gMetW_A (tL_tryAppend _ hlt _ _ hF _ _ _ _ q4 h1)) cd_L_tryAppend wL_110 nm_L_tryAppend rfl (by rw [hRm]; decide) rfl (Nat.le_of_ble_eq_true rfl) dL_call_110 hB eq4 kq4 hI (fun _ hI => ?_)
    exact r_iretA dL_call_113 h he hI
  refine r_sw h (fun g5 h => ?_) (fun g5 h => ?_)
  · refine r_tabIn (pc := 1) (tgt := 114) (v := 1) dL_call_1 g5 (by decide) (by decide) rfl (by decide) ?_
    refine r_aload_n (pc := 114) dL_call_114 rfl rfl ?_
    obtain ⟨s6, x7, q8, eq8, kq8, h⟩ := gCN_some h
    refine r_callAW (pc := 115) [.ref _] (gMetW_A (tL_tryLoad _ hlt _ _ hF _ _ _ q8 h1)) cd_L_tryLoad wL_116 nm_L_tryLoad rfl (by rw [hRm]; decide) rfl (Nat.le_of_ble_eq_true rfl) dL_call_115 hB eq8 kq8 hI (fun _ hI => ?_)
    exact r_iretA dL_call_118 h he hI
  refine r_sw h (fun g9 h => ?_) (fun g9 h => ?_)
  · refine r_tabIn (pc := 1) (tgt := 119) (v := 2) dL_call_1 g9 (by decide) (by decide) rfl (by decide) ?_
    refine r_aload_n (pc := 119) dL_call_119 rfl rfl ?_
    refine r_iload_n (pc := 120) dL_call_120 rfl rfl ?_
    obtain ⟨s10, x11, q12, eq12, kq12, h⟩ := gCN_some h
    refine r_callAW (pc := 121) [.ref _, .int _] (gMetW_A (tL_tryAbout _ hlt _ _ hF _ _ _ _ q12 h1)) cd_L_tryAbout wL_120 nm_L_tryAbout rfl (by rw [hRm]; decide) rfl (Nat.le_of_ble_eq_true rfl) dL_call_121 hB eq12 kq12 hI (fun _ hI => ?_)
    exact r_iretA dL_call_124 h he hI
  refine r_sw h (fun g13 h => ?_) (fun g13 h => ?_)
  · refine r_tabIn (pc := 1) (tgt := 125) (v := 3) dL_call_1 g13 (by decide) (by decide) rfl (by decide) ?_
    refine r_aload_n (pc := 125) dL_call_125 rfl rfl ?_
    refine r_iload_n (pc := 126) dL_call_126 rfl rfl ?_
    refine r_iload_n (pc := 127) dL_call_127 rfl rfl ?_
    obtain ⟨s14, x15, q16, eq16, kq16, h⟩ := gCN_some h
    refine r_callAW (pc := 128) [.ref _, .int _, .int _] (gMetW_A (tL_tryTold _ hlt _ _ hF _ _ _ _ _ q16 h1)) cd_L_tryTold wL_123 nm_L_tryTold rfl (by rw [hRm]; decide) rfl (Nat.le_of_ble_eq_true rfl) dL_call_128 hB eq16 kq16 hI (fun _ hI => ?_)
    exact r_iretA dL_call_131 h he hI
  refine r_sw h (fun g17 h => ?_) (fun g17 h => ?_)
  · refine r_tabIn (pc := 1) (tgt := 132) (v := 4) dL_call_1 g17 (by decide) (by decide) rfl (by decide) ?_
    refine r_aload_n (pc := 132) dL_call_132 rfl rfl ?_
    refine r_iload_n (pc := 133) dL_call_133 rfl rfl ?_
    refine r_iload_n (pc := 134) dL_call_134 rfl rfl ?_
    obtain ⟨s18, x19, q20, eq20, kq20, h⟩ := gCN_some h
    refine r_callAW (pc := 135) [.ref _, .int _, .int _] (gMetW_A (tL_tryOrdered _ hlt _ _ hF _ _ _ _ _ q20 h1)) cd_L_tryOrdered wL_127 nm_L_tryOrdered rfl (by rw [hRm]; decide) rfl (Nat.le_of_ble_eq_true rfl) dL_call_135 hB eq20 kq20 hI (fun _ hI => ?_)
    exact r_iretA dL_call_138 h he hI
  refine r_sw h (fun g21 h => ?_) (fun g21 h => ?_)
  · refine r_tabIn (pc := 1) (tgt := 139) (v := 5) dL_call_1 g21 (by decide) (by decide) rfl (by decide) ?_
    refine r_aload_n (pc := 139) dL_call_139 rfl rfl ?_
    refine r_iload_n (pc := 140) dL_call_140 rfl rfl ?_
    refine r_iload_n (pc := 141) dL_call_141 rfl rfl ?_
    refine r_iload (pc := 142) dL_call_142 rfl ?_
    obtain ⟨s22, x23, q24, eq24, kq24, h⟩ := gCN_some h
    refine r_callAW (pc := 144) [.ref _, .int _, .int _, .int _] (gMetW_A (tL_tryAway _ hlt _ _ hF _ _ _ _ _ _ q24 h1)) cd_L_tryAway wL_130 nm_L_tryAway rfl (by rw [hRm]; decide) rfl (Nat.le_of_ble_eq_true rfl) dL_call_144 hB eq24 kq24 hI (fun _ hI => ?_)
    exact r_iretA dL_call_147 h he hI
  refine r_sw h (fun g25 h => ?_) (fun g25 h => ?_)
  · refine r_tabIn (pc := 1) (tgt := 148) (v := 6) dL_call_1 g25 (by decide) (by decide) rfl (by decide) ?_
    refine r_aload_n (pc := 148) dL_call_148 rfl rfl ?_
    refine r_iload_n (pc := 149) dL_call_149 rfl rfl ?_
    refine r_iload_n (pc := 150) dL_call_150 rfl rfl ?_
    obtain ⟨s26, x27, q28, eq28, kq28, h⟩ := gCN_some h
    refine r_callAW (pc := 151) [.ref _, .int _, .int _] (gMetW_A (tL_tryClosed _ hlt _ _ hF _ _ _ _ _ q28 h1)) cd_L_tryClosed wL_134 nm_L_tryClosed rfl (by rw [hRm]; decide) rfl (Nat.le_of_ble_eq_true rfl) dL_call_151 hB eq28 kq28 hI (fun _ hI => ?_)
    exact r_iretA dL_call_154 h he hI
  refine r_sw h (fun g29 h => ?_) (fun g29 h => ?_)
  · refine r_tabIn (pc := 1) (tgt := 155) (v := 7) dL_call_1 g29 (by decide) (by decide) rfl (by decide) ?_
    refine r_aload_n (pc := 155) dL_call_155 rfl rfl ?_
    refine r_iload_n (pc := 156) dL_call_156 rfl rfl ?_
    obtain ⟨s30, x31, q32, eq32, kq32, h⟩ := gCN_some h
    refine r_callAW (pc := 157) [.ref _, .int _] (gMetW_A (tL_tryRound _ hlt _ _ hF _ _ _ _ q32 h1)) cd_L_tryRound wL_137 nm_L_tryRound rfl (by rw [hRm]; decide) rfl (Nat.le_of_ble_eq_true rfl) dL_call_157 hB eq32 kq32 hI (fun _ hI => ?_)
    exact r_iretA dL_call_160 h he hI
  refine r_sw h (fun g33 h => ?_) (fun g33 h => ?_)
  · refine r_tabIn (pc := 1) (tgt := 161) (v := 8) dL_call_1 g33 (by decide) (by decide) rfl (by decide) ?_
    refine r_aload_n (pc := 161) dL_call_161 rfl rfl ?_
    refine r_iload_n (pc := 162) dL_call_162 rfl rfl ?_
    obtain ⟨s34, x35, q36, eq36, kq36, h⟩ := gCN_some h
    refine r_callAW (pc := 163) [.ref _, .int _] (gMetW_A (tL_trySetting _ hlt _ _ hF _ _ _ _ q36 h1)) cd_L_trySetting wL_140 nm_L_trySetting rfl (by rw [hRm]; decide) rfl (Nat.le_of_ble_eq_true rfl) dL_call_163 hB eq36 kq36 hI (fun _ hI => ?_)
    exact r_iretA dL_call_166 h he hI
  refine r_sw h (fun g37 h => ?_) (fun g37 h => ?_)
  · refine r_tabIn (pc := 1) (tgt := 167) (v := 9) dL_call_1 g37 (by decide) (by decide) rfl (by decide) ?_
    refine r_aload_n (pc := 167) dL_call_167 rfl rfl ?_
    refine r_iload_n (pc := 168) dL_call_168 rfl rfl ?_
    refine r_iload_n (pc := 169) dL_call_169 rfl rfl ?_
    obtain ⟨s38, x39, q40, eq40, kq40, h⟩ := gCN_some h
    refine r_callAW (pc := 170) [.ref _, .int _, .int _] (gMetW_A (tL_tryCome _ hlt _ _ hF _ _ _ _ _ q40 h1)) cd_L_tryCome wL_143 nm_L_tryCome rfl (by rw [hRm]; decide) rfl (Nat.le_of_ble_eq_true rfl) dL_call_170 hB eq40 kq40 hI (fun _ hI => ?_)
    exact r_iretA dL_call_173 h he hI
  refine r_sw h (fun g41 h => ?_) (fun g41 h => ?_)
  · refine r_tabIn (pc := 1) (tgt := 174) (v := 10) dL_call_1 g41 (by decide) (by decide) rfl (by decide) ?_
    refine r_aload_n (pc := 174) dL_call_174 rfl rfl ?_
    refine r_iload_n (pc := 175) dL_call_175 rfl rfl ?_
    refine r_iload_n (pc := 176) dL_call_176 rfl rfl ?_
    refine r_iload (pc := 177) dL_call_177 rfl ?_
    obtain ⟨s42, x43, q44, eq44, kq44, h⟩ := gCN_some h
    refine r_callAW (pc := 179) [.ref _, .int _, .int _, .int _] (gMetW_A (tL_tryChange _ hlt _ _ hF _ _ _ _ _ _ q44 h1)) cd_L_tryChange wL_146 nm_L_tryChange rfl (by rw [hRm]; decide) rfl (Nat.le_of_ble_eq_true rfl) dL_call_179 hB eq44 kq44 hI (fun _ hI => ?_)
    exact r_iretA dL_call_182 h he hI
  refine r_sw h (fun g45 h => ?_) (fun g45 h => ?_)
  · refine r_tabIn (pc := 1) (tgt := 183) (v := 11) dL_call_1 g45 (by decide) (by decide) rfl (by decide) ?_
    refine r_aload_n (pc := 183) dL_call_183 rfl rfl ?_
    refine r_iload_n (pc := 184) dL_call_184 rfl rfl ?_
    refine r_iload_n (pc := 185) dL_call_185 rfl rfl ?_
    refine r_iload (pc := 186) dL_call_186 rfl ?_
    obtain ⟨s46, x47, q48, eq48, kq48, h⟩ := gCN_some h
    refine r_callAW (pc := 188) [.ref _, .int _, .int _, .int _] (gMetW_A (tL_tryHoliday _ hlt _ _ hF _ _ _ _ _ _ q48 h1)) cd_L_tryHoliday wL_149 nm_L_tryHoliday rfl (by rw [hRm]; decide) rfl (Nat.le_of_ble_eq_true rfl) dL_call_188 hB eq48 kq48 hI (fun _ hI => ?_)
    exact r_iretA dL_call_191 h he hI
  refine r_sw h (fun g49 h => ?_) (fun g49 h => ?_)
  · refine r_tabIn (pc := 1) (tgt := 192) (v := 12) dL_call_1 g49 (by decide) (by decide) rfl (by decide) ?_
    refine r_aload_n (pc := 192) dL_call_192 rfl rfl ?_
    refine r_iload_n (pc := 193) dL_call_193 rfl rfl ?_
    refine r_iload_n (pc := 194) dL_call_194 rfl rfl ?_
    obtain ⟨s50, x51, q52, eq52, kq52, h⟩ := gCN_some h
    refine r_callAW (pc := 195) [.ref _, .int _, .int _] (gMetW_A (tL_tryDrop _ hlt _ _ hF _ _ _ _ _ q52 h1)) cd_L_tryDrop wL_152 nm_L_tryDrop rfl (by rw [hRm]; decide) rfl (Nat.le_of_ble_eq_true rfl) dL_call_195 hB eq52 kq52 hI (fun _ hI => ?_)
    exact r_iretA dL_call_198 h he hI
  refine r_sw h (fun g53 h => ?_) (fun g53 h => ?_)
  · refine r_tabIn (pc := 1) (tgt := 199) (v := 13) dL_call_1 g53 (by decide) (by decide) rfl (by decide) ?_
    refine r_aload_n (pc := 199) dL_call_199 rfl rfl ?_
    refine r_iload_n (pc := 200) dL_call_200 rfl rfl ?_
    refine r_iload_n (pc := 201) dL_call_201 rfl rfl ?_
    obtain ⟨s54, x55, q56, eq56, kq56, h⟩ := gCN_some h
    refine r_callAW (pc := 202) [.ref _, .int _, .int _] (gMetW_A (tL_trySwap _ hlt _ _ hF _ _ _ _ _ q56 h1)) cd_L_trySwap wL_155 nm_L_trySwap rfl (by rw [hRm]; decide) rfl (Nat.le_of_ble_eq_true rfl) dL_call_202 hB eq56 kq56 hI (fun _ hI => ?_)
    exact r_iretA dL_call_205 h he hI
  refine r_sw h (fun g57 h => ?_) (fun g57 h => ?_)
  · refine r_tabIn (pc := 1) (tgt := 206) (v := 14) dL_call_1 g57 (by decide) (by decide) rfl (by decide) ?_
    refine r_aload_n (pc := 206) dL_call_206 rfl rfl ?_
    refine r_iload_n (pc := 207) dL_call_207 rfl rfl ?_
    refine r_iload_n (pc := 208) dL_call_208 rfl rfl ?_
    obtain ⟨s58, x59, q60, eq60, kq60, h⟩ := gCN_some h
    refine r_callAW (pc := 209) [.ref _, .int _, .int _] (gMetW_A (tL_tryLay _ hlt _ _ hF _ _ _ _ _ q60 h1)) cd_L_tryLay wL_158 nm_L_tryLay rfl (by rw [hRm]; decide) rfl (Nat.le_of_ble_eq_true rfl) dL_call_209 hB eq60 kq60 hI (fun _ hI => ?_)
    exact r_iretA dL_call_212 h he hI
  refine r_sw h (fun g61 h => ?_) (fun g61 h => ?_)
  · refine r_tabIn (pc := 1) (tgt := 213) (v := 15) dL_call_1 g61 (by decide) (by decide) rfl (by decide) ?_
    refine r_aload_n (pc := 213) dL_call_213 rfl rfl ?_
    refine r_iload_n (pc := 214) dL_call_214 rfl rfl ?_
    obtain ⟨s62, x63, q64, eq64, kq64, h⟩ := gCN_some h
    refine r_callAW (pc := 215) [.ref _, .int _] (gMetW_A (tL_tryDays _ hlt _ _ hF _ _ _ _ q64 h1)) cd_L_tryDays wL_161 nm_L_tryDays rfl (by rw [hRm]; decide) rfl (Nat.le_of_ble_eq_true rfl) dL_call_215 hB eq64 kq64 hI (fun _ hI => ?_)
    exact r_iretA dL_call_218 h he hI
  refine r_sw h (fun g65 h => ?_) (fun g65 h => ?_)
  · refine r_tabIn (pc := 1) (tgt := 219) (v := 16) dL_call_1 g65 (by decide) (by decide) rfl (by decide) ?_
    refine r_aload_n (pc := 219) dL_call_219 rfl rfl ?_
    obtain ⟨s66, x67, q68, eq68, kq68, h⟩ := gCN_some h
    refine r_callAW (pc := 220) [.ref _] (gMetW_A (tL_tryUndo _ hlt _ _ hF _ _ _ q68 h1)) cd_L_tryUndo wL_164 nm_L_tryUndo rfl (by rw [hRm]; decide) rfl (Nat.le_of_ble_eq_true rfl) dL_call_220 hB eq68 kq68 hI (fun _ hI => ?_)
    exact r_iretA dL_call_223 h he hI
  refine r_sw h (fun g69 h => ?_) (fun g69 h => ?_)
  · refine r_tabIn (pc := 1) (tgt := 224) (v := 17) dL_call_1 g69 (by decide) (by decide) rfl (by decide) ?_
    refine r_aload_n (pc := 224) dL_call_224 rfl rfl ?_
    refine r_iload_n (pc := 225) dL_call_225 rfl rfl ?_
    obtain ⟨s70, x71, q72, eq72, kq72, h⟩ := gCN_some h
    refine r_callAW (pc := 226) [.ref _, .int _] (gMetW_A (tL_tryWhy _ hlt _ _ hF _ _ _ _ q72 h1)) cd_L_tryWhy wL_167 nm_L_tryWhy rfl (by rw [hRm]; decide) rfl (Nat.le_of_ble_eq_true rfl) dL_call_226 hB eq72 kq72 hI (fun _ hI => ?_)
    exact r_iretA dL_call_229 h he hI
  refine r_sw h (fun g73 h => ?_) (fun g73 h => ?_)
  · refine r_tabIn (pc := 1) (tgt := 230) (v := 18) dL_call_1 g73 (by decide) (by decide) rfl (by decide) ?_
    refine r_aload_n (pc := 230) dL_call_230 rfl rfl ?_
    refine r_iload_n (pc := 231) dL_call_231 rfl rfl ?_
    refine r_iload_n (pc := 232) dL_call_232 rfl rfl ?_
    obtain ⟨s74, x75, q76, eq76, kq76, h⟩ := gCN_some h
    refine r_callAW (pc := 233) [.ref _, .int _, .int _] (gMetW_A (tL_tryCredit _ hlt _ _ hF _ _ _ _ _ q76 h1)) cd_L_tryCredit wL_170 nm_L_tryCredit rfl (by rw [hRm]; decide) rfl (Nat.le_of_ble_eq_true rfl) dL_call_233 hB eq76 kq76 hI (fun _ hI => ?_)
    exact r_iretA dL_call_236 h he hI
  refine r_sw h (fun g77 h => ?_) (fun g77 h => ?_)
  · refine r_tabIn (pc := 1) (tgt := 237) (v := 19) dL_call_1 g77 (by decide) (by decide) rfl (by decide) ?_
    refine r_aload_n (pc := 237) dL_call_237 rfl rfl ?_
    refine r_iload_n (pc := 238) dL_call_238 rfl rfl ?_
    obtain ⟨s78, x79, q80, eq80, kq80, h⟩ := gCN_some h
    refine r_callAW (pc := 239) [.ref _, .int _] (gMetW_A (tL_tryClear _ hlt _ _ hF _ _ _ _ q80 h1)) cd_L_tryClear wL_173 nm_L_tryClear rfl (by rw [hRm]; decide) rfl (Nat.le_of_ble_eq_true rfl) dL_call_239 hB eq80 kq80 hI (fun _ hI => ?_)
    exact r_iretA dL_call_242 h he hI
  refine r_sw h (fun g81 h => ?_) (fun g81 h => ?_)
  · refine r_tabIn (pc := 1) (tgt := 243) (v := 20) dL_call_1 g81 (by decide) (by decide) rfl (by decide) ?_
    refine r_aload_n (pc := 243) dL_call_243 rfl rfl ?_
    refine r_iload_n (pc := 244) dL_call_244 rfl rfl ?_
    obtain ⟨s82, x83, q84, eq84, kq84, h⟩ := gCN_some h
    refine r_callAW (pc := 245) [.ref _, .int _] (gMetW_A (tL_tryOven _ hlt _ _ hF _ _ _ _ q84 h1)) cd_L_tryOven wL_176 nm_L_tryOven rfl (by rw [hRm]; decide) rfl (Nat.le_of_ble_eq_true rfl) dL_call_245 hB eq84 kq84 hI (fun _ hI => ?_)
    exact r_iretA dL_call_248 h he hI
  refine r_sw h (fun g85 h => ?_) (fun g85 h => ?_)
  · refine r_tabIn (pc := 1) (tgt := 249) (v := 21) dL_call_1 g85 (by decide) (by decide) rfl (by decide) ?_
    refine r_aload_n (pc := 249) dL_call_249 rfl rfl ?_
    refine r_iload_n (pc := 250) dL_call_250 rfl rfl ?_
    obtain ⟨s86, x87, q88, eq88, kq88, h⟩ := gCN_some h
    refine r_callAW (pc := 251) [.ref _, .int _] (gMetW_A (tL_tryBest _ hlt _ _ hF _ _ _ _ q88 h1)) cd_L_tryBest wL_179 nm_L_tryBest rfl (by rw [hRm]; decide) rfl (Nat.le_of_ble_eq_true rfl) dL_call_251 hB eq88 kq88 hI (fun _ hI => ?_)
    exact r_iretA dL_call_254 h he hI
  refine r_sw h (fun g89 h => ?_) (fun g89 h => ?_)
  · refine r_tabIn (pc := 1) (tgt := 255) (v := 22) dL_call_1 g89 (by decide) (by decide) rfl (by decide) ?_
    refine r_aload_n (pc := 255) dL_call_255 rfl rfl ?_
    refine r_iload_n (pc := 256) dL_call_256 rfl rfl ?_
    obtain ⟨s90, x91, q92, eq92, kq92, h⟩ := gCN_some h
    refine r_callAW (pc := 257) [.ref _, .int _] (gMetW_A (tL_tryKeep _ hlt _ _ hF _ _ _ _ q92 h1)) cd_L_tryKeep wL_182 nm_L_tryKeep rfl (by rw [hRm]; decide) rfl (Nat.le_of_ble_eq_true rfl) dL_call_257 hB eq92 kq92 hI (fun _ hI => ?_)
    exact r_iretA dL_call_260 h he hI
  have g1n := gNe g1 (z := 0) (by decide)
  have g5n := gNe g5 (z := 1) (by decide)
  have g9n := gNe g9 (z := 2) (by decide)
  have g13n := gNe g13 (z := 3) (by decide)
  have g17n := gNe g17 (z := 4) (by decide)
  have g21n := gNe g21 (z := 5) (by decide)
  have g25n := gNe g25 (z := 6) (by decide)
  have g29n := gNe g29 (z := 7) (by decide)
  have g33n := gNe g33 (z := 8) (by decide)
  have g37n := gNe g37 (z := 9) (by decide)
  have g41n := gNe g41 (z := 10) (by decide)
  have g45n := gNe g45 (z := 11) (by decide)
  have g49n := gNe g49 (z := 12) (by decide)
  have g53n := gNe g53 (z := 13) (by decide)
  have g57n := gNe g57 (z := 14) (by decide)
  have g61n := gNe g61 (z := 15) (by decide)
  have g65n := gNe g65 (z := 16) (by decide)
  have g69n := gNe g69 (z := 17) (by decide)
  have g73n := gNe g73 (z := 18) (by decide)
  have g77n := gNe g77 (z := 19) (by decide)
  have g81n := gNe g81 (z := 20) (by decide)
  have g85n := gNe g85 (z := 21) (by decide)
  have g89n := gNe g89 (z := 22) (by decide)
  refine r_tabOut (pc := 1) (tgt := 261) dL_call_1 (by omega) (by decide) ?_
  refine r_aload_n (pc := 261) dL_call_261 rfl rfl ?_
  refine r_iload_n (pc := 262) dL_call_262 rfl rfl ?_
  obtain ⟨s93, x94, q95, eq95, kq95, h⟩ := gCN_some h
  refine r_callAW (pc := 263) [.ref _, .int _] (gMetW_A (tL_tryBack _ hlt _ _ hF _ _ _ _ q95 h1)) cd_L_tryBack wL_185 nm_L_tryBack rfl (by rw [hRm]; decide) rfl (Nat.le_of_ble_eq_true rfl) dL_call_263 hB eq95 kq95 hI (fun _ hI => ?_)
  exact r_iretA dL_call_266 h he hI
