/-! small rows for the methods that the program writes -/
def gFU : Nat := 5000
def gCl {α β : Type} (F : Option (gM × α)) (k : gM → α → Option β) : Option β := match F with | none => none | some q => k q.1 q.2
def gCv {β : Type} (F : Option gM) (k : gM → Option β) : Option β := match F with | none => none | some q => k q
theorem gCl_some {α β : Type} {F : Option (gM × α)} {k : gM → α → Option β} {o : β} (h : gCl F k = some o) : ∃ (m : gM) (x : α), F = some (m, x) ∧ k m x = some o := by
  cases F with
  | none => cases h
  | some q => exact ⟨q.1, q.2, rfl, h⟩
theorem gCv_some {β : Type} {F : Option gM} {k : gM → Option β} {o : β} (h : gCv F k = some o) : ∃ m : gM, F = some m ∧ k m = some o := by
  cases F with
  | none => cases h
  | some q => exact ⟨q, rfl, h⟩
theorem gNe {x v : Int32} {z : Int} (h : ¬ x = v) (hz : v.toInt = z) : x.toInt ≠ z := fun e => h (Int32.toInt_inj.mp (e.trans hz.symm))
theorem r_sw {c : Prop} [Decidable c] {β : Type} {o : β} {E1 E2 : Option β} {P : Prop} (h : (if c then E1 else E2) = some o) (kt : c → E1 = some o → P) (kf : ¬ c → E2 = some o → P) : P := by
  by_cases hc : c
  · rw [if_pos hc] at h
    exact kt hc h
  · rw [if_neg hc] at h
    exact kf hc h
def jmin (x y : Int32) : Int32 := if y < x then y else x
def jmax (x y : Int32) : Int32 := if x < y then y else x
section GS
variable {Y : gY} {cc : ByteArray} {own : String} {pc : Nat} {ls : List (Option Value)} {st : List Value} {σ : gM}
theorem r_iretH {x : Int32} {o : gM × Int32} (hd : decode cc pc = .ok (.ireturn, 1)) (h : some (σ, x) = some o) (he : gEnd Y (some .int) o.1 (some (.int o.2))) : AW Y cc own pc ls [.int x] σ := by
  cases h
  exact r_iret hd he
theorem r_zretH {x : Int32} {ty : FieldType} {o : gM × Int32} (hd : decode cc pc = .ok (.ireturn, 1)) (hty : narrow ty (.int x) = .int (vp_nar ty x)) (h : gRz ty x (some (σ, x)) = some o) (he : gEnd Y (some ty) o.1 (some (.int o.2))) : AW Y cc own pc ls [.int x] σ := by
  unfold gRz at h
  split at h
  · rename_i hn
    cases h
    exact r_zret hd he hn hty
  · cases h
theorem r_vretH {o : gM} (hd : decode cc pc = .ok (.return_, 1)) (h : some σ = some o) (he : gEnd Y none o none) : AW Y cc own pc ls [] σ := by
  cases h
  exact r_vret hd he
theorem r_aretH {a : Nat} {rt : FieldType} {o : gM × Nat} (hd : decode cc pc = .ok (.areturn, 1)) (hrt : (∃ n, rt = .object n) ∨ ∃ t, rt = .array t) (h : some (σ, a) = some o) (he : gEnd Y (some rt) o.1 (some (.ref o.2))) : AW Y cc own pc ls [.ref a] σ := by
  cases h
  exact r_aret hd hrt he
theorem r_mmin {x y : Int32} {i : Nat} {β : Type} {o : β} {E : Int32 → Option β} (hd : decode cc pc = .ok (.invokestatic i, 3)) (hw : Cond.methodLink own i Lib.Math.min.name ∈ gG ∧ Cond.static Lib.Math.min.name ∈ gG ∧ Cond.initialized "java/lang/Math" ∈ gG ∧ Cond.code Lib.Math.min.name Lib.Math.min.code 2 (some .int) ∈ gG) (hR : 1 ≤ (gRm Y).frames ∧ 21 ≤ (gRm Y).locals) (hc : (st.map fun v => v.category).sum ≤ 8) (h : gLt (jmin x y) E = some o) (k : ∀ z, E z = some o → AW Y cc own (pc + 3) ls (.int z :: st) σ) : AW Y cc own pc ls (.int y :: .int x :: st) σ := by
  obtain ⟨G, u, nL, p, l, e, R, s, m, args, below, meth, c, cells, slots, Q⟩ := Y
  intro hf H locs la hW hS hl
  have hts := hf.2.2.2.2.1
  refine va_mmin hf.1 hf.2.1 (hf.2.2.1.trans hl.1.symm) hf.2.2.2.1 (hts _ hw.1) (hts _ hw.2.1) (hts _ hw.2.2.1) (hts _ hw.2.2.2) hR.1 ?_ hf.2.2.2.2.2.2.1 hf.2.2.2.2.2.2.2 hd (k _ h hf H locs la hW hS hl)
  rw [gCat]
  have : 21 ≤ R.locals := hR.2
  omega
theorem r_mmax {x y : Int32} {i : Nat} {β : Type} {o : β} {E : Int32 → Option β} (hd : decode cc pc = .ok (.invokestatic i, 3)) (hw : Cond.methodLink own i Lib.Math.max.name ∈ gG ∧ Cond.static Lib.Math.max.name ∈ gG ∧ Cond.initialized "java/lang/Math" ∈ gG ∧ Cond.code Lib.Math.max.name Lib.Math.max.code 2 (some .int) ∈ gG) (hR : 1 ≤ (gRm Y).frames ∧ 21 ≤ (gRm Y).locals) (hc : (st.map fun v => v.category).sum ≤ 8) (h : gLt (jmax x y) E = some o) (k : ∀ z, E z = some o → AW Y cc own (pc + 3) ls (.int z :: st) σ) : AW Y cc own pc ls (.int y :: .int x :: st) σ := by
  obtain ⟨G, u, nL, p, l, e, R, s, m, args, below, meth, c, cells, slots, Q⟩ := Y
  intro hf H locs la hW hS hl
  have hts := hf.2.2.2.2.1
  refine va_mmax hf.1 hf.2.1 (hf.2.2.1.trans hl.1.symm) hf.2.2.2.1 (hts _ hw.1) (hts _ hw.2.1) (hts _ hw.2.2.1) (hts _ hw.2.2.2) hR.1 ?_ hf.2.2.2.2.2.2.1 hf.2.2.2.2.2.2.2 hd (k _ h hf H locs la hW hS hl)
  rw [gCat]
  have : 21 ≤ R.locals := hR.2
  omega
theorem r_ixor {x y : Int32} (hd : decode cc pc = .ok (.ixor, 1)) (k : AW Y cc own (pc + 1) ls (.int (x ^^^ y) :: st) σ) : AW Y cc own pc ls (.int y :: .int x :: st) σ := by
  obtain ⟨G, u, nL, p, l, e, R, s, m, args, below, meth, c, cells, slots, Q⟩ := Y
  intro hf H locs la hW hS hl
  exact lv_ixor hf.1 hf.2.1 hd (k hf H locs la hW hS hl)
end GS
theorem cX5_232 : Jvm.Cond.constant RX5 232 100000 ∈ gG := gG_mem (List.mem_of_getElem? (i := 906) (by decide +kernel)) rfl
theorem cX5_236 : Jvm.Cond.constant RX5 236 10000000 ∈ gG := gG_mem (List.mem_of_getElem? (i := 924) (by decide +kernel)) rfl
theorem cX0_99 : Jvm.Cond.constant RX0 99 9999999 ∈ gG := gG_mem (List.mem_of_getElem? (i := 488) (by decide +kernel)) rfl
theorem cX6_126 : Jvm.Cond.constant RX6 126 1000000 ∈ gG := gG_mem (List.mem_of_getElem? (i := 1030) (by decide +kernel)) rfl
theorem cX6_127 : Jvm.Cond.constant RX6 127 9999999 ∈ gG := gG_mem (List.mem_of_getElem? (i := 1031) (by decide +kernel)) rfl
theorem cX6_235 : Jvm.Cond.constant RX6 235 100000 ∈ gG := gG_mem (List.mem_of_getElem? (i := 1260) (by decide +kernel)) rfl
theorem cX6_239 : Jvm.Cond.constant RX6 239 10000000 ∈ gG := gG_mem (List.mem_of_getElem? (i := 1277) (by decide +kernel)) rfl
theorem cX5_191 : Jvm.Cond.constantLong RX5 191 1000000 ∈ gG := gG_mem (List.mem_of_getElem? (i := 898) (by decide +kernel)) rfl
theorem cX5_200 : Jvm.Cond.constantLong RX5 200 6364136223846793005 ∈ gG := gG_mem (List.mem_of_getElem? (i := 918) (by decide +kernel)) rfl
theorem cX5_202 : Jvm.Cond.constantLong RX5 202 1442695040888963407 ∈ gG := gG_mem (List.mem_of_getElem? (i := 919) (by decide +kernel)) rfl
theorem cX6_41 : Jvm.Cond.constantLong RX6 41 3 ∈ gG := gG_mem (List.mem_of_getElem? (i := 1164) (by decide +kernel)) rfl
theorem cX6_43 : Jvm.Cond.constantLong RX6 43 6 ∈ gG := gG_mem (List.mem_of_getElem? (i := 1151) (by decide +kernel)) rfl
theorem cX6_45 : Jvm.Cond.constantLong RX6 45 99 ∈ gG := gG_mem (List.mem_of_getElem? (i := 1085) (by decide +kernel)) rfl
theorem cX6_47 : Jvm.Cond.constantLong RX6 47 9 ∈ gG := gG_mem (List.mem_of_getElem? (i := 1029) (by decide +kernel)) rfl
theorem cX6_49 : Jvm.Cond.constantLong RX6 49 30 ∈ gG := gG_mem (List.mem_of_getElem? (i := 1086) (by decide +kernel)) rfl
theorem cX6_51 : Jvm.Cond.constantLong RX6 51 20 ∈ gG := gG_mem (List.mem_of_getElem? (i := 1087) (by decide +kernel)) rfl
theorem cX6_98 : Jvm.Cond.constantLong RX6 98 999 ∈ gG := gG_mem (List.mem_of_getElem? (i := 1178) (by decide +kernel)) rfl
theorem cX6_103 : Jvm.Cond.constantLong RX6 103 255 ∈ gG := gG_mem (List.mem_of_getElem? (i := 993) (by decide +kernel)) rfl
theorem cX6_190 : Jvm.Cond.constantLong RX6 190 12 ∈ gG := gG_mem (List.mem_of_getElem? (i := 1132) (by decide +kernel)) rfl
theorem cX6_195 : Jvm.Cond.constantLong RX6 195 10 ∈ gG := gG_mem (List.mem_of_getElem? (i := 1140) (by decide +kernel)) rfl
theorem cX6_203 : Jvm.Cond.constantLong RX6 203 2 ∈ gG := gG_mem (List.mem_of_getElem? (i := 1156) (by decide +kernel)) rfl
theorem cX6_208 : Jvm.Cond.constantLong RX6 208 4 ∈ gG := gG_mem (List.mem_of_getElem? (i := 1173) (by decide +kernel)) rfl
theorem cX6_210 : Jvm.Cond.constantLong RX6 210 500 ∈ gG := gG_mem (List.mem_of_getElem? (i := 1179) (by decide +kernel)) rfl
theorem cX6_212 : Jvm.Cond.constantLong RX6 212 9999999 ∈ gG := gG_mem (List.mem_of_getElem? (i := 1184) (by decide +kernel)) rfl
theorem cX6_223 : Jvm.Cond.constantLong RX6 223 60 ∈ gG := gG_mem (List.mem_of_getElem? (i := 1223) (by decide +kernel)) rfl
theorem cX6_228 : Jvm.Cond.constantLong RX6 228 200 ∈ gG := gG_mem (List.mem_of_getElem? (i := 1239) (by decide +kernel)) rfl
theorem cX6_233 : Jvm.Cond.constantLong RX6 233 1000000 ∈ gG := gG_mem (List.mem_of_getElem? (i := 1259) (by decide +kernel)) rfl
theorem cX6_244 : Jvm.Cond.constantLong RX6 244 6364136223846793005 ∈ gG := gG_mem (List.mem_of_getElem? (i := 1269) (by decide +kernel)) rfl
theorem cX6_246 : Jvm.Cond.constantLong RX6 246 1442695040888963407 ∈ gG := gG_mem (List.mem_of_getElem? (i := 1270) (by decide +kernel)) rfl
theorem mwX5_173 : Cond.methodLink RX5 173 Lib.Math.max.name ∈ gG ∧ Cond.static Lib.Math.max.name ∈ gG ∧ Cond.initialized "java/lang/Math" ∈ gG ∧ Cond.code Lib.Math.max.name Lib.Math.max.code 2 (some .int) ∈ gG := ⟨gG_mem (List.mem_of_getElem? (i := 871) (by decide +kernel)) rfl, gG_mem (List.mem_of_getElem? (i := 619) (by decide +kernel)) rfl, gG_mem (List.mem_of_getElem? (i := 91) (by decide +kernel)) rfl, gG_mem (List.mem_of_getElem? (i := 620) (by decide +kernel)) rfl⟩
theorem mwX0_189 : Cond.methodLink RX0 189 Lib.Math.min.name ∈ gG ∧ Cond.static Lib.Math.min.name ∈ gG ∧ Cond.initialized "java/lang/Math" ∈ gG ∧ Cond.code Lib.Math.min.name Lib.Math.min.code 2 (some .int) ∈ gG := ⟨gG_mem (List.mem_of_getElem? (i := 582) (by decide +kernel)) rfl, gG_mem (List.mem_of_getElem? (i := 583) (by decide +kernel)) rfl, gG_mem (List.mem_of_getElem? (i := 91) (by decide +kernel)) rfl, gG_mem (List.mem_of_getElem? (i := 584) (by decide +kernel)) rfl⟩
theorem mwX1_71 : Cond.methodLink RX1 71 Lib.Math.min.name ∈ gG ∧ Cond.static Lib.Math.min.name ∈ gG ∧ Cond.initialized "java/lang/Math" ∈ gG ∧ Cond.code Lib.Math.min.name Lib.Math.min.code 2 (some .int) ∈ gG := ⟨gG_mem (List.mem_of_getElem? (i := 738) (by decide +kernel)) rfl, gG_mem (List.mem_of_getElem? (i := 583) (by decide +kernel)) rfl, gG_mem (List.mem_of_getElem? (i := 91) (by decide +kernel)) rfl, gG_mem (List.mem_of_getElem? (i := 584) (by decide +kernel)) rfl⟩
theorem mwX1_76 : Cond.methodLink RX1 76 Lib.Math.max.name ∈ gG ∧ Cond.static Lib.Math.max.name ∈ gG ∧ Cond.initialized "java/lang/Math" ∈ gG ∧ Cond.code Lib.Math.max.name Lib.Math.max.code 2 (some .int) ∈ gG := ⟨gG_mem (List.mem_of_getElem? (i := 618) (by decide +kernel)) rfl, gG_mem (List.mem_of_getElem? (i := 619) (by decide +kernel)) rfl, gG_mem (List.mem_of_getElem? (i := 91) (by decide +kernel)) rfl, gG_mem (List.mem_of_getElem? (i := 620) (by decide +kernel)) rfl⟩
theorem mwX2_29 : Cond.methodLink RX2 29 Lib.Math.min.name ∈ gG ∧ Cond.static Lib.Math.min.name ∈ gG ∧ Cond.initialized "java/lang/Math" ∈ gG ∧ Cond.code Lib.Math.min.name Lib.Math.min.code 2 (some .int) ∈ gG := ⟨gG_mem (List.mem_of_getElem? (i := 767) (by decide +kernel)) rfl, gG_mem (List.mem_of_getElem? (i := 583) (by decide +kernel)) rfl, gG_mem (List.mem_of_getElem? (i := 91) (by decide +kernel)) rfl, gG_mem (List.mem_of_getElem? (i := 584) (by decide +kernel)) rfl⟩
