/-! the law's wrappers: what is caught; the law's script -/
def gYs (Y : gY) (u : gU) (a b : Nat) : gY := match Y with | (G, _, nL, p, l, e, R, s, m, args, below, meth, c, _, _, Q) => (G, u, nL, p, l, e, R, s, m, args, below, meth, c, a, b, Q)
def gCs (Y : gY) : Nat × Nat := match Y with | (_, _, _, _, _, _, _, _, _, _, _, _, _, cells, slots, _) => (cells, slots)
def gMetW (l : Launch) (G : gX) (u u1 : gU) (y : MethodName) (cd : Cond) (rm : Room) (as : List Value) (σ σ1 : gM) (r : Option Value) : Prop := Met l y (cd :: gG) rm (va_Pc (as.map (gV G)) (fun U => gWd G u σ U U.heap)) (gQ G u1 σ1 r) 1 6 (gA G)
def gEndW (Y : gY) (hh : List (Nat × Nat × Nat × Nat)) (u1 : gU) (σ1 : gM) (r : Option Value) : Prop := match Y with
  | (G, _, _, _, _, _, R, s, _, args, below, meth, c, cells, slots, Q) => meth.sig.returnType = some .int ∧ meth.locks = false ∧ c.exceptionTable.toList = tableOf hh ∧ Q = MQ below (gQ G u1 σ1 r) args s 1 6 (gA G) ∧ cells ≤ 1 ∧ slots ≤ 6 ∧ 1 ≤ R.cells ∧ 6 ≤ R.slots
theorem gMetW_of {l : Launch} {G : gX} {u u1 : gU} {y : MethodName} {rm : Room} {as : List Value} {σ σ1 : gM} {r : Option Value} {cc : ByteArray} {maxL k : Nat} {hh : List (Nat × Nat × Nat × Nat)} {own : String} (hy : plainName y.cls = true) (hown : y.cls = own) (hrm : rm.cells = 1 ∧ rm.slots = 6) (hlen : (lg_sl (as.map (gV G))).length ≤ maxL) (ls : List (Option Value)) (hls : gArgs as ++ List.replicate k none = ls)
    (body : ∀ Y : gY, Y.1 = G → Y.2.1 = u → gNL Y = maxL → gLn Y = l → gRm Y = rm → gCs Y = (0, 0) → gEndW Y hh u1 σ1 r → AW Y cc own 0 ls [] σ) : gMetW l G u u1 y (.codeWith y cc maxL (some .int) hh) rm as σ σ1 r := by
  unfold gMetW Met
  refine MetFree.of_bodyS (code := cc) (maxLocals := maxL) (ret := some .int) hy ?_ ?_
  · intro args s m h hn
    obtain ⟨m9, meth, c, hn9, h1, h2, h3, h4, -, h5, h6, -⟩ := Cond.codeWith_spec (atoms_spec (ws := Cond.codeWith y cc maxL (some .int) hh :: gG) h _ List.mem_cons_self)
    cases hn.symm.trans hn9
    exact ⟨meth, c, h1, h2, h3, h4, h5, h6⟩
  · intro p e s m args below meth c s₁ B hml hv _
    obtain ⟨rfl, hW⟩ := hv
    have hts := atoms_spec (ws := Cond.codeWith y cc maxL (some .int) hh :: gG) B.pre
    have hown' : s.vm.findClass own = some m.cls := by rw [← hown]; exact findClass_of_methodNamed B.named
    have hl := lv_entry (as.map (gV G)) (n := maxL) hlen
    have hh0 : s₁.heap = s.heap := by rw [B.state]; rfl
    rw [lg_entry_eq]
    generalize (lg_sl (as.map (gV G)) ++ List.replicate (maxL - (lg_sl (as.map (gV G))).length) Slot.unset).toArray = la at hl ⊢
    have hl2 : lv_has la maxL (gPr G 0 ls) := by rw [← hls, gPr_args]; exact hl
    obtain ⟨t, a1, o, b1, b2, b3⟩ := body (G, u, maxL, p, l, e, rm, s, m, (as.map (gV G)).toArray, below, meth, c, 0, 0, MQ below (gQ G u1 σ1 r) (as.map (gV G)).toArray s 1 6 (gA G)) rfl rfl rfl rfl rfl rfl ⟨B.returns, B.notSynchronized, vx_table (x := y) B (hts _ List.mem_cons_self), rfl, Nat.zero_le _, Nat.zero_le _, Nat.le_of_eq hrm.1.symm, Nat.le_of_eq hrm.2.symm⟩ ⟨B.exec, B.bytes, hml, hown', fun w hw => hts w (List.mem_cons_of_mem _ hw), hW.2.2.2.2, Nat.zero_le _, Nat.zero_le _⟩ s.heap [] la hW va_S.rf hl2 s₁ hh0 (Stand.of_body B)
    exact ⟨t, o, a1, b1, b2, ⟨b3.1, b3.2⟩⟩
section GLC
variable {Y : gY} {cc : ByteArray} {own : String} {pc : Nat} {ls : List (Option Value)} {st stk : List Value} {σ σ1 : gM}
variable {y : MethodName} {bytes : ByteArray} {maxL n idx : Nat} {ret : Option FieldType} {rm : Room} {r : Option Value} {E : String}
theorem r_iretW {u1 : gU} {hh : List (Nat × Nat × Nat × Nat)} {x : Int32} (hd : decode cc pc = .ok (.ireturn, 1)) (he : gEndW Y hh u1 σ (some (.int x))) (hu : Y.2.1 = u1) : AW Y cc own pc ls [.int x] σ := by
  obtain ⟨G, u, nL, p, l, e, R, s, m, args, below, meth, c, cells, slots, Q⟩ := Y
  have hu2 : u = u1 := hu
  subst hu2
  intro hf H locs la hW hS hl
  obtain ⟨h1, h2, -, rfl, h5, h6, -, -⟩ := he
  refine W.widen (k := 1) (n := 6) h5 h6 ?_
  exact W.iret (v := x) hf.1 hf.2.1 h1 (fun t ht hw => ⟨rfl, by rw [ht]; exact gWd_warm hw hW, hS.F ht⟩) hS.2.2 hd
theorem r_callVC {C : String} {T : u_T} {N b kd hp hp1 : Nat} {u1 : gU} {σ2 : gM} {hh : List (Nat × Nat × Nat × Nat)} {r2 : Option Value} (as : List Value) (hM : gMetT (gLn Y) Y.1 Y.2.1 y (.code y bytes maxL ret) rm (.ref b :: as) σ σ1 E) (hrm : rm.cells = 1 ∧ rm.slots = 6) (hcd : Cond.code y bytes maxL ret ∈ gG) (hw : Cond.methodLink own idx y ∈ gG ∧ Cond.instanceMethod y ∈ gG ∧ Cond.selects C y y ∈ gG ∧ Cond.initialized y.cls ∈ gG) (hnm : gNm y n) (hn : as.length = n) (hR : rm.frames + 1 ≤ (gRm Y).frames ∧ 8 + (maxL + 11) + rm.locals ≤ (gRm Y).locals) (hst : as.reverse ++ .ref b :: st = stk) (hcat : (st.map fun v => v.category).sum ≤ 8) (hc : vwCl[kd]? = some (C, T, N)) (h6 : kd < 6) (hb : gIn Y.2.1 b kd 0) (hd : decode cc pc = .ok (.invokevirtual idx, 3))
    (he : gEndW Y hh u1 σ2 r2) (hz : gCs Y = (0, 0)) (i : Nat) (hi : i < 3) (hE : gEx.getD i "" = E) (pre : List (Nat × Nat × Nat × Nat)) (q : Nat × Nat × Nat × Nat) (suf : List (Nat × Nat × Nat × Nat)) (hsplit : hh = pre ++ q :: suf) (hcov : q.1 ≤ pc ∧ pc < q.2.1) (hhp : q.2.2.1 = hp) (h0 : q.2.2.2 ≠ 0)
    (hpass : ∀ z ∈ pre, z.2.2.2 ≠ 0 ∧ ∃ j, j < 3 ∧ i ≠ j ∧ Cond.classLink own z.2.2.2 (gEx.getD j "") ∈ gG) (hlink : Cond.classLink own q.2.2.2 E ∈ gG) (hcast : Cond.castable E E ∈ gN)
    (hsto : (∃ (kk : Fin 4) (i : Nat), decode cc hp = .ok (.astore_n kk, 1) ∧ (kk : Nat) = i ∧ i < gNL Y ∧ hp1 = hp + 1) ∨ (∃ i : Nat, decode cc hp = .ok (.astore i, 2) ∧ i < gNL Y ∧ hp1 = hp + 2))
    (k : AW (gYs Y Y.2.1 1 6) cc own hp1 [] [] σ1) : AW Y cc own pc ls stk σ := by
  subst hst hE hhp hsplit
  obtain ⟨G, u, nL, p, l, e, R, s, m, args, below, meth, c, cells, slots, Q⟩ := Y
  cases hz
  intro hf H locs la hW hS hl
  obtain ⟨q0, -, hq⟩ := gIn_obj (G := G) (σ := σ) h6 hb
  have hts := hf.2.2.2.2.1
  obtain ⟨h1, h2, htab, rfl, -, -, h6, h7⟩ := he
  have hr := vx_runV (H := H) (locs := locs) (cells := 0) (slots := 0) (e := e) (below := below) (meth := meth) (As := as.map (gV G)) (b := G.2.2.1 b) (rest := st.map (gV G)) (n := n) (Ts := gG) (g := F0 m pc la ((as.reverse ++ .ref b :: st).map (gV G))) ⟨hf.1, hf.2.1, hf.2.2.1, hf.2.2.2.1, hts⟩ hM ⟨callB_of n hts (gG_good hcd) rfl hrm.1 hrm.2 (hts _ hw.2.2.2) (hts _ hw.1) hnm hR, hts _ hw.2.1, hts _ hw.2.2.1⟩ ⟨gBlind, va_recv hW.2.2.1.1 hW.1 hc hq, fun U hU hw1 => ⟨rfl, by
    show gWd G u σ U U.heap
    rw [hU]
    exact gWd_warm hw1 hW⟩⟩ rfl (by rw [List.length_map]; exact hn) hl.1 (by rw [F0, List.map_append, List.map_reverse]; rfl) (by
    rw [gCat]
    show 2 * 0 + _ ≤ 8
    omega) hd ⟨(show 0 + 1 ≤ R.cells by omega), (show 0 + 6 ≤ R.slots by omega)⟩
  intro T hT X
  rcases hr T hT X with ⟨v, st₀, t, T', L, h0, X', hL, e1, e2, hF, stp⟩ | ⟨qa, st₀, t, T', L, E1, ce, h0', X', hL, e1, e2, ⟨rfl, hw2, hF⟩, hce, hcv, hcl, stp⟩
  · exact hF.elim
  · obtain ⟨k1, k2, k3⟩ := vx_keep h0' e1 hS (fun q _ h => h) (fun q h => h) hL hF
    have hE1 : va_P G.1 vwCl (gWs G u σ1) T'.heap := by rw [e1]; exact hw2.1
    have hWd : gWd G u σ1 s T'.heap := ⟨hE1, hw2.2, hW.2.2.1, gSt_S hW.2.2.2.1 hS k3 hf.2.2.2.2.2.1, Nat.le_trans hf.2.2.2.2.2.1 k3.1⟩
    have hcov2 : covers (ExceptionTableEntry.mk q.1 q.2.1 q.2.2.1 q.2.2.2) pc = true := by
      unfold covers
      simp [hcov.1, hcov.2]
    have K : W p l e R s m args below meth c T'.heap (locs ++ L) (0 + 1) (0 + 6) (MQ below (gQ G u1 σ2 r2) args s 1 6 (gA G)) (F0 m q.2.2.1 la [.ref qa]) := by
      have hf1 : gFx (gYs (G, u, nL, p, l, e, R, s, m, args, below, meth, c, 0, 0, MQ below (gQ G u1 σ2 r2) args s 1 6 (gA G)) u 1 6) cc own := ⟨hf.1, hf.2.1, hf.2.2.1, hf.2.2.2.1, hf.2.2.2.2.1, hf.2.2.2.2.2.1, h6, h7⟩
      rcases hsto with ⟨kk, ix, s1, s2, s3, rfl⟩ | ⟨ix, s1, s3, rfl⟩
      · exact lv_astore_n hf.1 hf.2.1 s1 s2 hl s3 rfl (fun la' hl' => k hf1 T'.heap _ la' hWd k3 ⟨hl'.1, hl'.2.1, fun q hq => nomatch hq⟩)
      · exact lv_astore hf.1 hf.2.1 s1 hl s3 rfl (fun la' hl' => k hf1 T'.heap _ la' hWd k3 ⟨hl'.1, hl'.2.1, fun q hq => nomatch hq⟩)
    obtain ⟨t2, a1, b1⟩ := vx_catch (rest := st.map (gV G)) hf.2.2.2.1 (tableOf pre) ⟨q.1, q.2.1, q.2.2.1, q.2.2.2⟩ (tableOf suf) (by rw [htab]; simp [tableOf]) (fun z hz => by
      obtain ⟨z0, hz0, rfl⟩ := List.mem_map.mp hz
      obtain ⟨g1, j, g2, g3, g4⟩ := hpass z0 hz0
      exact Or.inr ⟨g1, _, hts _ g4, hW.2.2.1.2.2.2.2 i j hi g2 g3⟩) hcov2 h0 (hts _ hlink) (va_Nw.use rfl (hW.2.2.1.2.1 _ hcast)) (by rw [e1]; exact hce) hcv hcl K T' rfl X'
    exact ⟨t2, stp.trans a1, b1⟩
/-- the law's script -/
theorem r_sld {i : Int32} (hd : decode cc pc = .ok (.iaload, 1)) (hin : vp_in i (Y.1.2.2.1 30001)) (k : AW Y cc own (pc + 1) ls (.int (gXs Y.1 i.toNatClampNeg) :: st) σ) : AW Y cc own pc ls (.int i :: .ref 30000 :: st) σ := by
  obtain ⟨G, u, nL, p, l, e, R, s, m, args, below, meth, c, cells, slots, Q⟩ := Y
  intro hf H locs la hW hS hl
  have hX := (gSt_back hW.2.2.2.1 hS hf.2.2.2.2.2.1).2.2.2.2.2.2.2.2.2
  exact va_sld hf.1 hf.2.1 hX.1 hX.2.2 (Nat.not_le.mpr hX.2.1) hS hin hd (k hf H locs la hW hS hl)
theorem r_slen (hd : decode cc pc = .ok (.arraylength, 1)) (k : AW Y cc own (pc + 1) ls (.int (Int32.ofNat (Y.1.2.2.1 30001)) :: st) σ) : AW Y cc own pc ls (.ref 30000 :: st) σ := by
  obtain ⟨G, u, nL, p, l, e, R, s, m, args, below, meth, c, cells, slots, Q⟩ := Y
  intro hf H locs la hW hS hl
  have hX := (gSt_back hW.2.2.2.1 hS hf.2.2.2.2.2.1).2.2.2.2.2.2.2.2.2
  exact va_slen hf.1 hf.2.1 hX.1 hX.2.2 (Nat.not_le.mpr hX.2.1) hS hd (k hf H locs la hW hS hl)
end GLC
theorem gEndW_s {Y : gY} {hh : List (Nat × Nat × Nat × Nat)} {u1 u : gU} {σ1 : gM} {r : Option Value} {a b : Nat} (h : gEndW Y hh u1 σ1 r) (ha : a ≤ 1) (hb : b ≤ 6) : gEndW (gYs Y u a b) hh u1 σ1 r := by
  obtain ⟨G, u0, nL, p, l, e, R, s, m, args, below, meth, c, cells, slots, Q⟩ := Y
  exact ⟨h.1, h.2.1, h.2.2.1, h.2.2.2.1, ha, hb, h.2.2.2.2.2.2⟩
theorem gYs_u {Y : gY} {u : gU} {a b : Nat} : (gYs Y u a b).2.1 = u := by
  obtain ⟨G, u0, nL, p, l, e, R, s, m, args, below, meth, c, cells, slots, Q⟩ := Y
  rfl
theorem gYs_G {Y : gY} {u : gU} {a b : Nat} : (gYs Y u a b).1 = Y.1 := by
  obtain ⟨G, u0, nL, p, l, e, R, s, m, args, below, meth, c, cells, slots, Q⟩ := Y
  rfl
theorem gYs_nL {Y : gY} {u : gU} {a b : Nat} : gNL (gYs Y u a b) = gNL Y := by
  obtain ⟨G, u0, nL, p, l, e, R, s, m, args, below, meth, c, cells, slots, Q⟩ := Y
  rfl
theorem gYs_Rm {Y : gY} {u : gU} {a b : Nat} : gRm (gYs Y u a b) = gRm Y := by
  obtain ⟨G, u0, nL, p, l, e, R, s, m, args, below, meth, c, cells, slots, Q⟩ := Y
  rfl
theorem gYs_Ln {Y : gY} {u : gU} {a b : Nat} : gLn (gYs Y u a b) = gLn Y := by
  obtain ⟨G, u0, nL, p, l, e, R, s, m, args, below, meth, c, cells, slots, Q⟩ := Y
  rfl
theorem gYs_Cs {Y : gY} {u : gU} {a b : Nat} : gCs (gYs Y u a b) = (a, b) := by
  obtain ⟨G, u0, nL, p, l, e, R, s, m, args, below, meth, c, cells, slots, Q⟩ := Y
  rfl
theorem gYs_s {Y : gY} {u u1 : gU} {a b a1 b1 : Nat} : gYs (gYs Y u a b) u1 a1 b1 = gYs Y u1 a1 b1 := by
  obtain ⟨G, u0, nL, p, l, e, R, s, m, args, below, meth, c, cells, slots, Q⟩ := Y
  rfl
