/-! methods of the class that throw: contracts in the flat world -/
def gXC (G : gX) (u : gU) (σ1 : gM) (E : String) : String → State → State → Prop := fun E1 st t => E1 = E ∧ (va_P G.1 vwCl (gWs G u σ1) t.heap ∧ va_D (gA G) (gWs G u σ1)) ∧ va_F (gA G) st t
def gNo : Array Value → State → Outcome → State → Prop := fun _ _ _ _ => False
def gMetT (l : Launch) (G : gX) (u : gU) (y : MethodName) (cd : Cond) (rm : Room) (as : List Value) (σ σ1 : gM) (E : String) : Prop := vx_Met l y (cd :: gG) rm (va_Pc (as.map (gV G)) (fun U => gWd G u σ U U.heap)) gNo (gXC G u σ1 E) 1 6 (gA G)
def gEndT (Y : gY) (σ1 : gM) (E : String) : Prop := match Y with
  | (G, u, _, _, l, _, R, s, _, args, below, meth, c, cells, slots, Q) => meth.locks = false ∧ (∀ x ∈ c.exceptionTable.toList, False) ∧ Q = vx_MQ below gNo (gXC G u σ1 E) args s 1 6 (gA G) ∧ cells = 0 ∧ slots = 0 ∧ 1 ≤ R.cells ∧ 6 ≤ R.slots ∧ l.stackTraces = false
theorem gMetT_of {l : Launch} (hlt : l.stackTraces = false) {G : gX} {u : gU} {y : MethodName} {rm : Room} {as : List Value} {σ σ1 : gM} {E : String} {cc : ByteArray} {maxL k : Nat} {ret : Option FieldType} {own : String} (hy : plainName y.cls = true) (hown : y.cls = own) (hrm : rm.cells = 1 ∧ rm.slots = 6) (hlen : (lg_sl (as.map (gV G))).length ≤ maxL) (ls : List (Option Value)) (hls : gArgs as ++ List.replicate k none = ls)
    (body : ∀ Y : gY, Y.1 = G → Y.2.1 = u → gNL Y = maxL → gLn Y = l → gRm Y = rm → gEndT Y σ1 E → AW Y cc own 0 ls [] σ) : gMetT l G u y (.code y cc maxL ret) rm as σ σ1 E := by
  refine vx_ofW (cc := cc) (maxL := maxL) (ret := ret) hy rfl ?_
  intro p e s m args below meth c s₁ B hml htab hv
  obtain ⟨rfl, hW⟩ := hv
  have hts := atoms_spec (ws := Cond.code y cc maxL ret :: gG) B.pre
  have hown' : s.vm.findClass own = some m.cls := by rw [← hown]; exact findClass_of_methodNamed B.named
  have hl := lv_entry (as.map (gV G)) (n := maxL) hlen
  rw [lg_entry_eq]
  generalize (lg_sl (as.map (gV G)) ++ List.replicate (maxL - (lg_sl (as.map (gV G))).length) Slot.unset).toArray = la at hl ⊢
  have hl2 : lv_has la maxL (gPr G 0 ls) := by rw [← hls, gPr_args]; exact hl
  exact body (G, u, maxL, p, l, e, rm, s, m, (as.map (gV G)).toArray, below, meth, c, 0, 0, vx_MQ below gNo (gXC G u σ1 E) (as.map (gV G)).toArray s 1 6 (gA G)) rfl rfl rfl rfl rfl ⟨B.notSynchronized, htab, rfl, rfl, rfl, Nat.le_of_eq hrm.1.symm, Nat.le_of_eq hrm.2.symm, hlt⟩ ⟨B.exec, B.bytes, hml, hown', fun w hw => hts w (List.mem_cons_of_mem _ hw), hW.2.2.2.2, Nat.zero_le _, Nat.zero_le _⟩ s.heap [] la hW va_S.rf hl2
section GT
variable {Y : gY} {cc : ByteArray} {own : String} {pc : Nat} {ls : List (Option Value)} {st stk : List Value} {σ σ1 : gM}
variable {y : MethodName} {bytes : ByteArray} {maxL n idx : Nat} {ret : Option FieldType} {rm : Room} {E : String}
theorem gAfterT {G : gX} {u : gU} {p : Program} {l : Launch} {e : Env} {R : Room} {s : State} {m : MethodId} {args : Array Value} {below : List Frame} {meth : Method} {c : Code} {H : Heap} {locs : List Loc} {la : Array Slot} {st0 rest : List Value} {a : Array Value}
    (hr : vx_Run p l e R s m args below meth c H locs 0 0 1 6 (F0 m pc la st0) rest (gNo a) (gXC G u σ1 E) (gA G)) (hS : va_S (gA G) s.heap H locs)
    (h1 : meth.locks = false) (h2 : ∀ x ∈ c.exceptionTable.toList, False) : W p l e R s m args below meth c H locs 0 0 (vx_MQ below gNo (gXC G u σ1 E) args s 1 6 (gA G)) (F0 m pc la st0) := by
  intro T hT X
  rcases hr T hT X with ⟨v, st₀, t, T', L, h0, X', hL, e1, e2, hF, st⟩ | ⟨q, st₀, t, T', L, E1, ce, h0, X', hL, e1, e2, ⟨rfl, hw, hF⟩, hce, hcv, hcl, st⟩
  · exact hF.elim
  · obtain ⟨k1, k2, k3⟩ := vx_keep h0 e1 hS (fun q _ h => h) (fun q h => h) hL hF
    obtain ⟨t2, a1, b1⟩ := vx_out (Qc := gNo) (XC := gXC G u σ1 E1) (pc := pc) (ls := la) (rest := rest) (mc := 1) (ms := 6) (free := gA G) (cells := 0 + 1) (slots := 0 + 6) (H := T'.heap) (locs := locs ++ L) (q := q) (fun x hx => (h2 x hx).elim) h1 (by rw [e1]; exact hce) hcv hcl (fun t' ht' _ => ⟨rfl, by rw [ht', e1]; exact hw, ⟨by rw [ht']; exact k3.1, fun q h1 h2 => by rw [ht']; exact k3.2.1 q h1 h2⟩⟩) k3.2.2 (Nat.le_refl _) (Nat.le_refl _) T' rfl X'
    exact ⟨t2, st.trans a1, b1⟩
theorem r_callST (as : List Value) (hM : gMetT (gLn Y) Y.1 Y.2.1 y (.code y bytes maxL ret) rm as σ σ1 E) (hrm : rm.cells = 1 ∧ rm.slots = 6) (hcd : Cond.code y bytes maxL ret ∈ gG) (hw : Cond.methodLink own idx y ∈ gG ∧ Cond.static y ∈ gG ∧ Cond.initialized y.cls ∈ gG) (hnm : gNm y n) (hn : as.length = n) (hR : rm.frames + 1 ≤ (gRm Y).frames ∧ 8 + (maxL + 11) + rm.locals ≤ (gRm Y).locals) (hst : as.reverse ++ st = stk) (hcat : (st.map fun v => v.category).sum ≤ 8) (hd : decode cc pc = .ok (.invokestatic idx, 3)) (he : gEndT Y σ1 E) : AW Y cc own pc ls stk σ := by
  subst hst
  obtain ⟨G, u, nL, p, l, e, R, s, m, args, below, meth, c, cells, slots, Q⟩ := Y
  intro hf H locs la hW hS hl
  have hts := hf.2.2.2.2.1
  obtain ⟨h1, h2, rfl, rfl, rfl, h6, h7, h8⟩ := he
  refine gAfterT (vx_runS (As := as.map (gV G)) (rest := st.map (gV G)) (n := n) (Ts := gG) ⟨hf.1, hf.2.1, hf.2.2.1, hf.2.2.2.1, hts⟩ hM ⟨callB_of n hts (gG_good hcd) rfl hrm.1 hrm.2 (hts _ hw.2.2) (hts _ hw.1) hnm hR, hts _ hw.2.1⟩ ⟨gBlind, fun U hU hw1 => ⟨rfl, ?_⟩⟩ rfl (by rw [List.length_map]; exact hn) hl.1 (by rw [List.map_append, List.map_reverse]) ?_ hd ⟨by omega, by omega⟩) hS h1 h2
  · show gWd G u σ U U.heap
    rw [hU]
    exact gWd_warm hw1 hW
  · rw [gCat]
    show 2 * 0 + _ ≤ 8
    omega
theorem r_callVT {C : String} {T : u_T} {N b kd : Nat} (as : List Value) (hM : gMetT (gLn Y) Y.1 Y.2.1 y (.code y bytes maxL ret) rm (.ref b :: as) σ σ1 E) (hrm : rm.cells = 1 ∧ rm.slots = 6) (hcd : Cond.code y bytes maxL ret ∈ gG) (hw : Cond.methodLink own idx y ∈ gG ∧ Cond.instanceMethod y ∈ gG ∧ Cond.selects C y y ∈ gG ∧ Cond.initialized y.cls ∈ gG) (hnm : gNm y n) (hn : as.length = n) (hR : rm.frames + 1 ≤ (gRm Y).frames ∧ 8 + (maxL + 11) + rm.locals ≤ (gRm Y).locals) (hst : as.reverse ++ .ref b :: st = stk) (hcat : (st.map fun v => v.category).sum ≤ 8) (hc : vwCl[kd]? = some (C, T, N)) (h6 : kd < 6) (hb : gIn Y.2.1 b kd 0) (hd : decode cc pc = .ok (.invokevirtual idx, 3)) (he : gEndT Y σ1 E) : AW Y cc own pc ls stk σ := by
  subst hst
  obtain ⟨G, u, nL, p, l, e, R, s, m, args, below, meth, c, cells, slots, Q⟩ := Y
  intro hf H locs la hW hS hl
  obtain ⟨q0, -, hq⟩ := gIn_obj (G := G) (σ := σ) h6 hb
  have hts := hf.2.2.2.2.1
  obtain ⟨h1, h2, rfl, rfl, rfl, h6, h7, h8⟩ := he
  refine gAfterT (vx_runV (As := as.map (gV G)) (b := G.2.2.1 b) (rest := st.map (gV G)) (n := n) (Ts := gG) ⟨hf.1, hf.2.1, hf.2.2.1, hf.2.2.2.1, hts⟩ hM ⟨callB_of n hts (gG_good hcd) rfl hrm.1 hrm.2 (hts _ hw.2.2.2) (hts _ hw.1) hnm hR, hts _ hw.2.1, hts _ hw.2.2.1⟩ ⟨gBlind, va_recv hW.2.2.1.1 hW.1 hc hq, fun U hU hw1 => ⟨rfl, ?_⟩⟩ rfl (by rw [List.length_map]; exact hn) hl.1 (by rw [List.map_append, List.map_reverse]; rfl) ?_ hd ⟨by omega, by omega⟩) hS h1 h2
  · show gWd G u σ U U.heap
    rw [hU]
    exact gWd_warm hw1 hW
  · rw [gCat]
    show 2 * 0 + _ ≤ 8
    omega
end GT
theorem gDem_ret {e : Nat} (he : e ≠ 0) {x : Int32} {m : gM} {k : Option (gM × Nat × Int32)} {o : gM × Nat × Int32} (h : gDem e x m k = some o) (h0 : o.2.1 = 0) : ¬ x = 0 ∧ k = some o := by
  unfold gDem at h
  split at h
  · cases h
    exact absurd h0 he
  · rename_i hx
    exact ⟨hx, h⟩
theorem gDem_thr {e : Nat} {x : Int32} {m : gM} {k : Option (gM × Nat × Int32)} {o : gM × Nat × Int32} (h : gDem e x m k = some o) : (x = 0 ∧ o = (m, e, 0)) ∨ (¬ x = 0 ∧ k = some o) := by
  unfold gDem at h
  split at h
  · rename_i hx
    cases h
    exact Or.inl ⟨hx, rfl⟩
  · rename_i hx
    exact Or.inr ⟨hx, h⟩
theorem gClX_ret {F : Option (gM × Nat × Int32)} {k : gM → Int32 → Option (gM × Nat × Int32)} {o : gM × Nat × Int32} (h : gClX F k = some o) (h0 : o.2.1 = 0) : ∃ q : gM × Nat × Int32, F = some q ∧ q.2.1 = 0 ∧ k q.1 q.2.2 = some o := by
  cases F with
  | none => cases h
  | some q =>
    simp only [gClX] at h
    split at h
    · rename_i hq
      exact ⟨q, rfl, hq, h⟩
    · rename_i hq
      cases h
      exact absurd h0 hq
theorem gClX_thr {F : Option (gM × Nat × Int32)} {k : gM → Int32 → Option (gM × Nat × Int32)} {o : gM × Nat × Int32} (h : gClX F k = some o) : ∃ q : gM × Nat × Int32, F = some q ∧ ((q.2.1 ≠ 0 ∧ o = (q.1, q.2.1, 0)) ∨ (q.2.1 = 0 ∧ k q.1 q.2.2 = some o)) := by
  cases F with
  | none => cases h
  | some q =>
    simp only [gClX] at h
    refine ⟨q, rfl, ?_⟩
    split at h
    · rename_i hq
      exact Or.inr ⟨hq, h⟩
    · rename_i hq
      cases h
      exact Or.inl ⟨hq, rfl⟩
def gEn (e : Nat) : String := gEx.getD (e - 1) ""
theorem r_iretX {Y : gY} {cc : ByteArray} {own : String} {pc : Nat} {ls : List (Option Value)} {σ : gM} {x : Int32} {o : gM × Nat × Int32} (hd : decode cc pc = .ok (.ireturn, 1)) (h : some (σ, 0, x) = some o) (he : gEnd Y (some .int) o.1 (some (.int o.2.2))) : AW Y cc own pc ls [.int x] σ := by
  cases h
  exact r_iret hd he
/-! the three methods that throw -/
def gNames : List String := ["java/lang/RuntimeException", "java/lang/Exception"]
def gTh (cls : String) (ik ic : Nat) : List Cond := .classLink RX5 ik cls :: .initialized cls :: vx_atS RX5 ic cls gNames
theorem gT0g : ∀ w ∈ (gTh "java/lang/IndexOutOfBoundsException" 237 241).filter goodWord, w ∈ gG := by decide +kernel
theorem gT0n : ∀ w ∈ (gTh "java/lang/IndexOutOfBoundsException" 237 241).filter (fun w => !goodWord w), w ∈ gN := by decide +kernel
theorem gT0o : ∀ w ∈ gTh "java/lang/IndexOutOfBoundsException" 237 241, vx_ot w = true := by decide +kernel
theorem gT1g : ∀ w ∈ (gTh "java/lang/IllegalArgumentException" 244 248).filter goodWord, w ∈ gG := by decide +kernel
theorem gT1n : ∀ w ∈ (gTh "java/lang/IllegalArgumentException" 244 248).filter (fun w => !goodWord w), w ∈ gN := by decide +kernel
theorem gT1o : ∀ w ∈ gTh "java/lang/IllegalArgumentException" 244 248, vx_ot w = true := by decide +kernel
theorem gT2g : ∀ w ∈ (gTh "java/lang/IllegalStateException" 249 253).filter goodWord, w ∈ gG := by decide +kernel
theorem gT2n : ∀ w ∈ (gTh "java/lang/IllegalStateException" 249 253).filter (fun w => !goodWord w), w ∈ gN := by decide +kernel
theorem gT2o : ∀ w ∈ gTh "java/lang/IllegalStateException" 249 253, vx_ot w = true := by decide +kernel
theorem gNestT {w : Cond} (h : gNest w = true) : w.onTables = true := by
  cases w <;> first | rfl | (simp [gNest] at h)
theorem r_throw {Y : gY} {cc : ByteArray} {pc : Nat} {ls : List (Option Value)} {st : List Value} {σ : gM} (i : Nat) (hi : i < 3) {cls text : String} {ik ic is : Nat} (hc1 : gEx.getD i "" = cls) (hc2 : gMk.getD i 0 = is) (hc3 : gMx.getD i "" = text) (hfit : Bundle.fit cls = true)
    (hg : ∀ w ∈ (gTh cls ik ic).filter goodWord, w ∈ gG) (hn : ∀ w ∈ (gTh cls ik ic).filter (fun w => !goodWord w), w ∈ gN) (ho : ∀ w ∈ gTh cls ik ic, vx_ot w = true)
    (d0 : decode cc pc = .ok (.new ik, 3)) (d3 : decode cc (pc + 3) = .ok (.dup, 1)) (d4 : decode cc (pc + 4) = .ok (.ldc is, 2)) (d6 : decode cc (pc + 6) = .ok (.invokespecial ic, 3)) (d9 : decode cc (pc + 9) = .ok (.athrow, 1))
    (hR : 5 < (gRm Y).frames ∧ (st.map fun v => v.category).sum + 82 ≤ (gRm Y).locals) (he : gEndT Y σ cls) : AW Y cc RX5 pc ls st σ := by
  subst hc1 hc2 hc3
  obtain ⟨G, u, nL, p, l, e, R, s, m, args, below, meth, c, cells, slots, Q⟩ := Y
  intro hf H locs la hW hS hl
  have hts := hf.2.2.2.2.1
  obtain ⟨h1, h2, rfl, rfl, rfl, h6, h7, h8⟩ := he
  have hall : ∀ w ∈ gTh (gEx.getD i "") ik ic, w.before args s = true := vx_hat (B := gN) (fun w hw => hts w (hg w hw)) hn (fun w hw => va_Nw.use (gNestT (List.mem_filter.mp hw).2) (hW.2.2.1.2.1 w hw))
  obtain ⟨sa, hsa⟩ := hW.2.2.1.2.2.2.1 i hi
  have hb := gSt_back hW.2.2.2.1 hS hf.2.2.2.2.2.1
  refine vx_throwS (names := gNames) (A := gA G) hf.1 hf.2.1 h8 hf.2.2.2.1 hfit (by decide +kernel) (hall _ (List.mem_cons_self)) (hall _ (List.mem_cons_of_mem _ List.mem_cons_self)) hsa (fun w hw => hall w (List.mem_cons_of_mem _ (List.mem_cons_of_mem _ hw))) ho hb.2.2.2.2.2.2.2.1 hb.2.2.2.2.2.2.2.2.1 hS (hl.1.trans hf.2.2.1.symm) d0 d3 d4 d6 d9 (fun x hx => (h2 x hx).elim) (Nat.lt_of_lt_of_le (by decide) hR.1) ?_ (by omega) (by omega) h1 (fun t _ hz hk => ⟨rfl, ⟨?_, hW.2.1⟩, ?_⟩) hS.2.2 (by omega) (by omega)
  · rw [gCat]
    exact hR.2
  · exact hW.1.kept (fun k q hq => hk q.1 (vx_lt hW.1 hq))
  · exact ⟨Nat.le_trans hS.1 hz, fun q h1 h2 => by rw [hk q (Nat.lt_of_lt_of_le h1 hS.1)]; exact hS.2.1 q h1 h2⟩
abbrev rmX5_demandPlace : Room := { frames := 6, cells := 0, slots := 0, locals := 82 }
abbrev rmX5_demandPlaceT : Room := { frames := 6, cells := 1, slots := 6, locals := 82 }
theorem tX5_demandPlace (l : Launch) (G : gX) (u : gU) (p1 : Int32) (m : gM) (hp : ¬ p1 = 0) : gMet l G u yX5_demandPlace (.code yX5_demandPlace cX5_demandPlace 1 none) rmX5_demandPlace [.int p1] m m none := by
  refine gMet_of (own := RX5) (k := 0) (by decide) rfl ⟨rfl, rfl⟩ (Nat.le_of_ble_eq_true rfl) [some (.int p1)] rfl (fun Y hG hu hnL hLn hRm he => ?_)
  refine r_iload_n (pc := 0) dX5_demandPlace_0 rfl rfl ?_
  refine r_ifC_ne (pc := 1) (tgt := 14) dX5_demandPlace_1 (by decide) (fun _ => ?_) (fun g => absurd g hp)
  exact r_vret dX5_demandPlace_14 he
theorem tX5_demandPlaceT (l : Launch) (hlt : l.stackTraces = false) (G : gX) (u : gU) (p1 : Int32) (m : gM) (hp : p1 = 0) : gMetT l G u yX5_demandPlace (.code yX5_demandPlace cX5_demandPlace 1 none) rmX5_demandPlaceT [.int p1] m m (gEn 1) := by
  refine gMetT_of hlt (own := RX5) (k := 0) (by decide) rfl ⟨rfl, rfl⟩ (Nat.le_of_ble_eq_true rfl) [some (.int p1)] rfl (fun Y hG hu hnL hLn hRm he => ?_)
  refine r_iload_n (pc := 0) dX5_demandPlace_0 rfl rfl ?_
  refine r_ifC_ne (pc := 1) (tgt := 14) dX5_demandPlace_1 (by decide) (fun g => absurd hp g) (fun _ => ?_)
  exact r_throw (pc := 4) 0 (by decide) (cls := "java/lang/IndexOutOfBoundsException") (ik := 237) (ic := 241) rfl rfl rfl (by decide +kernel) gT0g gT0n gT0o dX5_demandPlace_4 dX5_demandPlace_7 dX5_demandPlace_8 dX5_demandPlace_10 dX5_demandPlace_13 (by rw [hRm]; decide) he
abbrev rmX5_demandArgument : Room := { frames := 6, cells := 0, slots := 0, locals := 82 }
abbrev rmX5_demandArgumentT : Room := { frames := 6, cells := 1, slots := 6, locals := 82 }
theorem tX5_demandArgument (l : Launch) (G : gX) (u : gU) (p1 : Int32) (m : gM) (hp : ¬ p1 = 0) : gMet l G u yX5_demandArgument (.code yX5_demandArgument cX5_demandArgument 1 none) rmX5_demandArgument [.int p1] m m none := by
  refine gMet_of (own := RX5) (k := 0) (by decide) rfl ⟨rfl, rfl⟩ (Nat.le_of_ble_eq_true rfl) [some (.int p1)] rfl (fun Y hG hu hnL hLn hRm he => ?_)
  refine r_iload_n (pc := 0) dX5_demandArgument_0 rfl rfl ?_
  refine r_ifC_ne (pc := 1) (tgt := 14) dX5_demandArgument_1 (by decide) (fun _ => ?_) (fun g => absurd g hp)
  exact r_vret dX5_demandArgument_14 he
theorem tX5_demandArgumentT (l : Launch) (hlt : l.stackTraces = false) (G : gX) (u : gU) (p1 : Int32) (m : gM) (hp : p1 = 0) : gMetT l G u yX5_demandArgument (.code yX5_demandArgument cX5_demandArgument 1 none) rmX5_demandArgumentT [.int p1] m m (gEn 2) := by
  refine gMetT_of hlt (own := RX5) (k := 0) (by decide) rfl ⟨rfl, rfl⟩ (Nat.le_of_ble_eq_true rfl) [some (.int p1)] rfl (fun Y hG hu hnL hLn hRm he => ?_)
  refine r_iload_n (pc := 0) dX5_demandArgument_0 rfl rfl ?_
  refine r_ifC_ne (pc := 1) (tgt := 14) dX5_demandArgument_1 (by decide) (fun g => absurd hp g) (fun _ => ?_)
  exact r_throw (pc := 4) 1 (by decide) (cls := "java/lang/IllegalArgumentException") (ik := 244) (ic := 248) rfl rfl rfl (by decide +kernel) gT1g gT1n gT1o dX5_demandArgument_4 dX5_demandArgument_7 dX5_demandArgument_8 dX5_demandArgument_10 dX5_demandArgument_13 (by rw [hRm]; decide) he
abbrev rmX5_demandState : Room := { frames := 6, cells := 0, slots := 0, locals := 82 }
abbrev rmX5_demandStateT : Room := { frames := 6, cells := 1, slots := 6, locals := 82 }
theorem tX5_demandState (l : Launch) (G : gX) (u : gU) (p1 : Int32) (m : gM) (hp : ¬ p1 = 0) : gMet l G u yX5_demandState (.code yX5_demandState cX5_demandState 1 none) rmX5_demandState [.int p1] m m none := by
  refine gMet_of (own := RX5) (k := 0) (by decide) rfl ⟨rfl, rfl⟩ (Nat.le_of_ble_eq_true rfl) [some (.int p1)] rfl (fun Y hG hu hnL hLn hRm he => ?_)
  refine r_iload_n (pc := 0) dX5_demandState_0 rfl rfl ?_
  refine r_ifC_ne (pc := 1) (tgt := 14) dX5_demandState_1 (by decide) (fun _ => ?_) (fun g => absurd g hp)
  exact r_vret dX5_demandState_14 he
theorem tX5_demandStateT (l : Launch) (hlt : l.stackTraces = false) (G : gX) (u : gU) (p1 : Int32) (m : gM) (hp : p1 = 0) : gMetT l G u yX5_demandState (.code yX5_demandState cX5_demandState 1 none) rmX5_demandStateT [.int p1] m m (gEn 3) := by
  refine gMetT_of hlt (own := RX5) (k := 0) (by decide) rfl ⟨rfl, rfl⟩ (Nat.le_of_ble_eq_true rfl) [some (.int p1)] rfl (fun Y hG hu hnL hLn hRm he => ?_)
  refine r_iload_n (pc := 0) dX5_demandState_0 rfl rfl ?_
  refine r_ifC_ne (pc := 1) (tgt := 14) dX5_demandState_1 (by decide) (fun g => absurd hp g) (fun _ => ?_)
  exact r_throw (pc := 4) 2 (by decide) (cls := "java/lang/IllegalStateException") (ik := 249) (ic := 253) rfl rfl rfl (by decide +kernel) gT2g gT2n gT2o dX5_demandState_4 dX5_demandState_7 dX5_demandState_8 dX5_demandState_10 dX5_demandState_13 (by rw [hRm]; decide) he
