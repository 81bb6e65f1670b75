/-! contracts in the flat world; calls and returns -/
theorem gG_mem {w : Cond} (h : w ∈ lw_tbl) (hg : goodWord w = true) : w ∈ gG := List.mem_filter.mpr ⟨h, hg⟩
theorem gN_mem {w : Cond} (h : w ∈ lw_tbl) (hg : gNest w = true) : w ∈ gN := List.mem_filter.mpr ⟨h, hg⟩
theorem gG_good {cd : Cond} (h : cd ∈ gG) : GoodIn gG (cd :: gG) := by
  intro w hw
  rcases List.mem_cons.mp hw with q | q
  · subst q
    exact ⟨h, good_of_word (List.mem_filter.mp h).2⟩
  · exact ⟨q, good_of_word (List.mem_filter.mp q).2⟩
theorem gNc_moved {C T : String} {s U : State} (hvm : s.vm.Alike U.vm) (h : va_Nc C T s) : va_Nc C T U := by
  obtain ⟨c, t, h1, h2, h3⟩ := h
  exact ⟨c, t, by rw [hvm.findClass]; exact h1, by rw [hvm.findClass]; exact h2, by rw [hvm.assignable]; exact h3⟩
theorem gKS_warm {G : gX} {s U : State} (hW : s.WarmedH U.vm) (h : gKS G s) : gKS G U := by
  refine ⟨va_K.moved hW.alike h.1, fun w hw => ?_, fun i hi => vk_R.warm hW (h.2.2.1 i hi), fun i hi => ?_, fun i j hi hj hij => gNc_moved hW.alike (h.2.2.2.2 i j hi hj hij)⟩
  · have h1 := h.2.1 w hw
    have h2 := (List.mem_filter.mp hw).2
    cases w <;> first | exact va_Nw.warmF hW h1 | exact va_Nw.warmM hW h1 | exact va_Nw.warmD hW h1 | exact va_Nw.warmC hW h1 | (exact absurd h2 (by simp [gNest]))
  · obtain ⟨a, ha⟩ := h.2.2.2.1 i hi
    exact ⟨a, vk_R.warm hW ha⟩
theorem gKS_same {G : gX} {s U : State} (hv : s.vm = U.vm) (h : gKS G s) : gKS G U := by
  have hal : s.vm.Alike U.vm := by rw [hv]; exact Vm.Alike.refl U.vm
  refine ⟨va_K.moved hal h.1, fun w hw => ?_, fun i hi => vk_R.same hv.symm (h.2.2.1 i hi), fun i hi => ?_, fun i j hi hj hij => gNc_moved hal (h.2.2.2.2 i j hi hj hij)⟩
  · have h1 := h.2.1 w hw
    have h2 := (List.mem_filter.mp hw).2
    cases w <;> first | exact va_Nw.same rfl hv h1 | (exact absurd h2 (by simp [gNest]))
  · obtain ⟨a, ha⟩ := h.2.2.2.1 i hi
    exact ⟨a, vk_R.same hv.symm ha⟩
theorem gWd_warm {G : gX} {u : gU} {σ : gM} {s U : State} {H : Heap} (hW : s.WarmedH U.vm) (h : gWd G u σ s H) : gWd G u σ U H := ⟨h.1, h.2.1, gKS_warm hW h.2.2.1, gSt_moved hW.alike h.2.2.2.1, h.2.2.2.2⟩
theorem gWd_same {G : gX} {u : gU} {σ : gM} {s U : State} {H : Heap} (hv : s.vm = U.vm) (h : gWd G u σ s H) : gWd G u σ U H := ⟨h.1, h.2.1, gKS_same hv h.2.2.1, gSt_moved (by rw [hv]; exact Vm.Alike.refl U.vm) h.2.2.2.1, h.2.2.2.2⟩
def gQ (G : gX) (u : gU) (σ1 : gM) (r : Option Value) : Array Value → State → Outcome → State → Prop := fun _ st oc t => oc = .returned (r.map (gV G)) ∧ gWd G u σ1 t t.heap ∧ va_F (gA G) st t
def gMet (l : Launch) (G : gX) (u : gU) (y : MethodName) (cd : Cond) (rm : Room) (as : List Value) (σ σ1 : gM) (r : Option Value) : Prop := Met l y (cd :: gG) rm (va_Pc (as.map (gV G)) (fun U => gWd G u σ U U.heap)) (gQ G u σ1 r) 0 0 (gA G)
def gEnd (Y : gY) (ret : Option FieldType) (σ1 : gM) (r : Option Value) : Prop := match Y with
  | (G, u, _, _, _, _, _, s, _, args, below, meth, _, cells, slots, Q) => meth.sig.returnType = ret ∧ meth.locks = false ∧ Q = MQ below (gQ G u σ1 r) args s cells slots (gA G)
def gLn (Y : gY) : Launch := Y.2.2.2.2.1
def gRm (Y : gY) : Room := Y.2.2.2.2.2.2.1
def gArgs : List Value → List (Option Value)
  | [] => []
  | .long x :: t => some (.long x) :: none :: gArgs t
  | .double x :: t => some (.double x) :: none :: gArgs t
  | v :: t => some v :: gArgs t
theorem gPr_nones (G : gX) : ∀ (k i : Nat), gPr G i (List.replicate k none) = []
  | 0, i => rfl
  | k + 1, i => by
    rw [List.replicate_succ]
    exact gPr_nones G k (i + 1)
theorem gPr_args (G : gX) (k : Nat) : ∀ (as : List Value) (i : Nat), gPr G i (gArgs as ++ List.replicate k none) = lv_args i (as.map (gV G))
  | [], i => by simpa [gArgs, lv_args] using gPr_nones G k i
  | v :: t, i => by
    cases v <;> simp [gArgs, gPr, lv_args, gV, Value.category, gPr_args G k t]
theorem gMet_of {l : Launch} {G : gX} {u : gU} {y : MethodName} {rm : Room} {as : List Value} {σ σ1 : gM} {r : Option Value} {cc : ByteArray} {maxL k : Nat} {ret : Option FieldType} {own : String} (hy : plainName y.cls = true) (hown : y.cls = own) (hrm : rm.cells = 0 ∧ rm.slots = 0) (hlen : (lg_sl (as.map (gV G))).length ≤ maxL) (ls : List (Option Value)) (hls : gArgs as ++ List.replicate k none = ls)
    (body : ∀ Y : gY, Y.1 = G → Y.2.1 = u → gNL Y = maxL → gLn Y = l → gRm Y = rm → gEnd Y ret σ1 r → AW Y cc own 0 ls [] σ) : gMet l G u y (.code y cc maxL ret) rm as σ σ1 r := by
  refine Met.ofW (cc := cc) (maxL := maxL) (ret := ret) hy rfl ?_
  intro p e s m args below meth c s₁ B hml hv
  obtain ⟨rfl, hW⟩ := hv
  have hts := atoms_spec (ws := Cond.code y cc maxL ret :: gG) B.pre
  have hown' : s.vm.findClass own = some m.cls := by rw [← hown]; exact findClass_of_methodNamed B.named
  have hl := lv_entry (as.map (gV G)) (n := maxL) hlen
  rw [lg_entry_eq]
  generalize (lg_sl (as.map (gV G)) ++ List.replicate (maxL - (lg_sl (as.map (gV G))).length) Slot.unset).toArray = la at hl ⊢
  have hl2 : lv_has la maxL (gPr G 0 ls) := by rw [← hls, gPr_args]; exact hl
  exact body (G, u, maxL, p, l, e, rm, s, m, (as.map (gV G)).toArray, below, meth, c, 0, 0, MQ below (gQ G u σ1 r) (as.map (gV G)).toArray s 0 0 (gA G)) rfl rfl rfl rfl rfl ⟨B.returns, B.notSynchronized, rfl⟩ ⟨B.exec, B.bytes, hml, hown', fun w hw => hts w (List.mem_cons_of_mem _ hw), hW.2.2.2.2, Nat.zero_le _, Nat.zero_le _⟩ s.heap [] la hW va_S.rf hl2
section GC
variable {Y : gY} {cc : ByteArray} {own : String} {pc : Nat} {ls : List (Option Value)} {st : List Value} {σ σ1 : gM} {β : Type} {o : β}
theorem r_iret {x : Int32} (hd : decode cc pc = .ok (.ireturn, 1)) (he : gEnd Y (some .int) σ (some (.int x))) : AW Y cc own pc ls [.int x] σ := by
  obtain ⟨G, u, nL, p, l, e, R, s, m, args, below, meth, c, cells, slots, Q⟩ := Y
  intro hf H locs la hW hS hl
  obtain ⟨h1, h2, rfl⟩ := he
  exact W.iret (v := x) hf.1 hf.2.1 h1 (fun t ht hw => ⟨rfl, by rw [ht]; exact gWd_warm hw hW, hS.F ht⟩) hS.2.2 hd
theorem r_zret {x : Int32} {ty : FieldType} (hd : decode cc pc = .ok (.ireturn, 1)) (he : gEnd Y (some ty) σ (some (.int x))) (hn : vp_nar ty x = x) (hty : narrow ty (.int x) = .int (vp_nar ty x)) : AW Y cc own pc ls [.int x] σ := by
  obtain ⟨G, u, nL, p, l, e, R, s, m, args, below, meth, c, cells, slots, Q⟩ := Y
  intro hf H locs la hW hS hl
  obtain ⟨h1, h2, rfl⟩ := he
  exact W.zret (v := x) hf.1 hf.2.1 h1 (by rw [hty, hn]) (fun t ht hw => ⟨rfl, by rw [ht]; exact gWd_warm hw hW, hS.F ht⟩) hS.2.2 hd
theorem r_vret (hd : decode cc pc = .ok (.return_, 1)) (he : gEnd Y none σ none) : AW Y cc own pc ls [] σ := by
  obtain ⟨G, u, nL, p, l, e, R, s, m, args, below, meth, c, cells, slots, Q⟩ := Y
  intro hf H locs la hW hS hl
  obtain ⟨h1, h2, rfl⟩ := he
  exact W.vret hf.1 hf.2.1 h1 (fun t ht hw => ⟨rfl, by rw [ht]; exact gWd_warm hw hW, hS.F ht⟩) hS.2.2 hd
theorem r_aret {a : Nat} {rt : FieldType} (hd : decode cc pc = .ok (.areturn, 1)) (hrt : (∃ n, rt = .object n) ∨ ∃ t, rt = .array t) (he : gEnd Y (some rt) σ (some (.ref a))) : AW Y cc own pc ls [.ref a] σ := by
  obtain ⟨G, u, nL, p, l, e, R, s, m, args, below, meth, c, cells, slots, Q⟩ := Y
  intro hf H locs la hW hS hl
  obtain ⟨h1, h2, rfl⟩ := he
  exact W.aret (v := .ref (G.2.2.1 a)) hf.1 hf.2.1 h1 hrt (Or.inr ⟨_, rfl⟩) (fun t ht hw => ⟨rfl, by rw [ht]; exact gWd_warm hw hW, hS.F ht⟩) hS.2.2 hd
end GC
theorem gBlind {G : gX} {u : gU} {σ : gM} {av : List Value} : FrameBlind (va_Pc av (fun U => gWd G u σ U U.heap)) := by
  intro a U g mk h
  exact ⟨h.1, gWd_same (s := U) (U := U.calling g mk a) rfl h.2⟩
theorem gAfter {G : gX} {u : gU} {σ σ1 : gM} {r : Option Value} {p : Program} {l : Launch} {e : Env} {R : Room} {s : State} {m : MethodId} {args : Array Value} {below : List Frame} {meth : Method} {c : Code} {H : Heap} {locs : List Loc} {cells slots : Nat} {Q : State → Prop} {pc : Nat} {la : Array Slot} {st0 rest : List Value} {a : Array Value}
    (hr : va_Run p l e R s m args below meth c H locs cells slots 0 0 (F0 m pc la st0) rest (gQ G u σ1 r a) (gA G)) (hz : G.2.2.2 ≤ s.heap.size) (hW : gWd G u σ s H) (hS : va_S (gA G) s.heap H locs)
    (kk : ∀ (H1 : Heap) (locs1 : List Loc), gWd G u σ1 s H1 → va_S (gA G) s.heap H1 locs1 → W p l e R s m args below meth c H1 locs1 cells slots Q (F0 m (pc + 3) la ((r.map (gV G)).toList ++ rest))) : W p l e R s m args below meth c H locs cells slots Q (F0 m pc la st0) := by
  intro T hT X
  obtain ⟨v, st₀, t, T', L, h0, X', hL, e1, e2, ⟨hv, hw, hF⟩, st⟩ := hr T hT X
  cases hv
  obtain ⟨hk1, hk2⟩ := hF
  rw [h0] at hk1 hk2
  have hS1 : va_S (gA G) s.heap T'.heap (locs ++ L) := by
    refine ⟨Nat.le_trans hS.1 (by rw [e1]; exact hk1), fun q h1 h2 => ?_, fun q hq => ?_⟩
    · rw [e1, hk2 q (Nat.lt_of_lt_of_le h1 hS.1) h2]
      exact hS.2.1 q h1 h2
    · rcases List.mem_append.mp hq with h | h
      · exact hS.2.2 q h
      · exact hL q h
  obtain ⟨t2, a1, b1⟩ := kk T'.heap (locs ++ L) ⟨by rw [e1]; exact hw.1, hw.2.1, hW.2.2.1, gSt_S hW.2.2.2.1 hS hS1 hz, Nat.le_trans hz hS1.1⟩ hS1 T' rfl X'
  exact ⟨t2, st t2 a1, b1⟩
def gNm (y : MethodName) (n : Nat) : Prop := y.cls ≠ "java/lang/invoke/MethodHandle" ∧ y.cls ≠ "java/lang/invoke/VarHandle" ∧ (parseMethodDescriptor y.desc).map (fun d => d.parameters.length) = some n
section GCL
variable {Y : gY} {cc : ByteArray} {own : String} {pc : Nat} {ls : List (Option Value)} {st stk : List Value} {σ σ1 : gM}
variable {y : MethodName} {bytes : ByteArray} {maxL n idx : Nat} {ret : Option FieldType} {rm : Room} {r : Option Value}
theorem gStk (G : gX) (r : Option Value) (st : List Value) : (r.map (gV G)).toList ++ st.map (gV G) = (r.toList ++ st).map (gV G) := by cases r <;> rfl
theorem gCat (G : gX) (st : List Value) : ((st.map (gV G)).map fun v => v.category).sum = (st.map fun v => v.category).sum := by
  rw [List.map_map]
  congr 1
  exact List.map_congr_left (fun v _ => gV_cat G v)
theorem r_callV {C : String} {T : u_T} {N b kd : Nat} (as : List Value) (hM : gMet (gLn Y) Y.1 Y.2.1 y (.code y bytes maxL ret) rm (.ref b :: as) σ σ1 r) (hrm : rm.cells = 0 ∧ rm.slots = 0) (hcd : Cond.code y bytes maxL ret ∈ gG) (hw : Cond.methodLink own idx y ∈ gG ∧ Cond.instanceMethod y ∈ gG ∧ Cond.selects C y y ∈ gG ∧ Cond.initialized y.cls ∈ gG) (hnm : gNm y n) (hn : as.length = n) (hR : rm.frames + 1 ≤ (gRm Y).frames ∧ 8 + (maxL + 11) + rm.locals ≤ (gRm Y).locals) (hst : as.reverse ++ .ref b :: st = stk) (hcat : (st.map fun v => v.category).sum ≤ 8) (hc : vwCl[kd]? = some (C, T, N)) (h6 : kd < 6) (hb : gIn Y.2.1 b kd 0) (hd : decode cc pc = .ok (.invokevirtual idx, 3))
    (k : AW Y cc own (pc + 3) ls (r.toList ++ st) σ1) : AW Y cc own pc ls stk σ := by
  subst hst
  obtain ⟨G, u, nL, p, l, e, R, s, m, args, below, meth, c, cells, slots, Q⟩ := Y
  intro hf H locs la hW hS hl
  obtain ⟨q0, -, hq⟩ := gIn_obj (G := G) (σ := σ) h6 hb
  have hts := hf.2.2.2.2.1
  refine gAfter (va_runV (As := as.map (gV G)) (b := G.2.2.1 b) (rest := st.map (gV G)) (n := n) (Ts := gG) ⟨hf.1, hf.2.1, hf.2.2.1, hf.2.2.2.1, hts⟩ hM ⟨callB_of n hts (gG_good hcd) rfl hrm.1 hrm.2 (hts _ hw.2.2.2) (hts _ hw.1) hnm hR, hts _ hw.2.1, hts _ hw.2.2.1⟩ ⟨gBlind, va_recv hW.2.2.1.1 hW.1 hc hq, fun U hU hw1 => ⟨rfl, ?_⟩⟩ rfl (by rw [List.length_map]; exact hn) hl.1 (by rw [List.map_append, List.map_reverse]; rfl) ?_ hd ⟨hf.2.2.2.2.2.2.1, hf.2.2.2.2.2.2.2⟩) hf.2.2.2.2.2.1 hW hS (fun H1 locs1 hW1 hS1 => ?_)
  · show gWd G u σ U U.heap
    rw [hU]
    exact gWd_warm hw1 hW
  · rw [gCat]
    show 2 * 0 + _ ≤ 8
    omega
  · rw [gStk]
    exact k hf H1 locs1 la hW1 hS1 hl
theorem r_callVN {C host : String} {T : u_T} {N b kd : Nat} (as : List Value) (hM : gMet (gLn Y) Y.1 Y.2.1 y (.code y bytes maxL ret) rm (.ref b :: as) σ σ1 r) (hrm : rm.cells = 0 ∧ rm.slots = 0) (hcd : Cond.code y bytes maxL ret ∈ gG) (hw : Cond.methodLinkNest own idx y host ∈ gN ∧ Cond.instanceMethod y ∈ gG ∧ Cond.selects C y y ∈ gG ∧ Cond.initialized y.cls ∈ gG) (hnm : gNm y n) (hn : as.length = n) (hR : rm.frames + 1 ≤ (gRm Y).frames ∧ 8 + (maxL + 11) + rm.locals ≤ (gRm Y).locals) (hst : as.reverse ++ .ref b :: st = stk) (hcat : (st.map fun v => v.category).sum ≤ 8) (hc : vwCl[kd]? = some (C, T, N)) (h6 : kd < 6) (hb : gIn Y.2.1 b kd 0) (hd : decode cc pc = .ok (.invokevirtual idx, 3))
    (k : AW Y cc own (pc + 3) ls (r.toList ++ st) σ1) : AW Y cc own pc ls stk σ := by
  subst hst
  obtain ⟨G, u, nL, p, l, e, R, s, m, args, below, meth, c, cells, slots, Q⟩ := Y
  intro hf H locs la hW hS hl
  obtain ⟨q0, -, hq⟩ := gIn_obj (G := G) (σ := σ) h6 hb
  have hts := hf.2.2.2.2.1
  refine gAfter (va_runVN (As := as.map (gV G)) (b := G.2.2.1 b) (rest := st.map (gV G)) (n := n) (Ts := gG) ⟨hf.1, hf.2.1, hf.2.2.1, hf.2.2.2.1, hts⟩ hM ⟨va_cnB n hts (gG_good hcd) rfl hrm.1 hrm.2 (hW.2.2.1.2.1 _ hw.1) (hts _ hw.2.2.2) hnm hR, hts _ hw.2.1, hts _ hw.2.2.1⟩ ⟨gBlind, va_recv hW.2.2.1.1 hW.1 hc hq, fun U hU hw1 => ⟨rfl, ?_⟩⟩ rfl (by rw [List.length_map]; exact hn) hl.1 (by rw [List.map_append, List.map_reverse]; rfl) ?_ hd ⟨hf.2.2.2.2.2.2.1, hf.2.2.2.2.2.2.2⟩) hf.2.2.2.2.2.1 hW hS (fun H1 locs1 hW1 hS1 => ?_)
  · show gWd G u σ U U.heap
    rw [hU]
    exact gWd_warm hw1 hW
  · rw [gCat]
    show 2 * 0 + _ ≤ 8
    omega
  · rw [gStk]
    exact k hf H1 locs1 la hW1 hS1 hl
theorem r_callS (as : List Value) (hM : gMet (gLn Y) Y.1 Y.2.1 y (.code y bytes maxL ret) rm as σ σ1 r) (hrm : rm.cells = 0 ∧ rm.slots = 0) (hcd : Cond.code y bytes maxL ret ∈ gG) (hw : Cond.methodLink own idx y ∈ gG ∧ Cond.static y ∈ gG ∧ Cond.initialized y.cls ∈ gG) (hnm : gNm y n) (hn : as.length = n) (hR : rm.frames + 1 ≤ (gRm Y).frames ∧ 8 + (maxL + 11) + rm.locals ≤ (gRm Y).locals) (hst : as.reverse ++ st = stk) (hcat : (st.map fun v => v.category).sum ≤ 8) (hd : decode cc pc = .ok (.invokestatic idx, 3))
    (k : AW Y cc own (pc + 3) ls (r.toList ++ st) σ1) : AW Y cc own pc ls stk σ := by
  subst hst
  obtain ⟨G, u, nL, p, l, e, R, s, m, args, below, meth, c, cells, slots, Q⟩ := Y
  intro hf H locs la hW hS hl
  have hts := hf.2.2.2.2.1
  refine gAfter (va_runS (As := as.map (gV G)) (rest := st.map (gV G)) (n := n) (Ts := gG) ⟨hf.1, hf.2.1, hf.2.2.1, hf.2.2.2.1, hts⟩ hM ⟨callB_of n hts (gG_good hcd) rfl hrm.1 hrm.2 (hts _ hw.2.2) (hts _ hw.1) hnm hR, hts _ hw.2.1⟩ ⟨gBlind, fun U hU hw1 => ⟨rfl, ?_⟩⟩ rfl (by rw [List.length_map]; exact hn) hl.1 (by rw [List.map_append, List.map_reverse]) ?_ hd ⟨hf.2.2.2.2.2.2.1, hf.2.2.2.2.2.2.2⟩) hf.2.2.2.2.2.1 hW hS (fun H1 locs1 hW1 hS1 => ?_)
  · show gWd G u σ U U.heap
    rw [hU]
    exact gWd_warm hw1 hW
  · rw [gCat]
    show 2 * 0 + _ ≤ 8
    omega
  · rw [gStk]
    exact k hf H1 locs1 la hW1 hS1 hl
theorem r_callSN {host : String} (as : List Value) (hM : gMet (gLn Y) Y.1 Y.2.1 y (.code y bytes maxL ret) rm as σ σ1 r) (hrm : rm.cells = 0 ∧ rm.slots = 0) (hcd : Cond.code y bytes maxL ret ∈ gG) (hw : Cond.methodLinkNest own idx y host ∈ gN ∧ Cond.static y ∈ gG ∧ Cond.initialized y.cls ∈ gG) (hnm : gNm y n) (hn : as.length = n) (hR : rm.frames + 1 ≤ (gRm Y).frames ∧ 8 + (maxL + 11) + rm.locals ≤ (gRm Y).locals) (hst : as.reverse ++ st = stk) (hcat : (st.map fun v => v.category).sum ≤ 8) (hd : decode cc pc = .ok (.invokestatic idx, 3))
    (k : AW Y cc own (pc + 3) ls (r.toList ++ st) σ1) : AW Y cc own pc ls stk σ := by
  subst hst
  obtain ⟨G, u, nL, p, l, e, R, s, m, args, below, meth, c, cells, slots, Q⟩ := Y
  intro hf H locs la hW hS hl
  have hts := hf.2.2.2.2.1
  refine gAfter (va_runSN (As := as.map (gV G)) (rest := st.map (gV G)) (n := n) (Ts := gG) ⟨hf.1, hf.2.1, hf.2.2.1, hf.2.2.2.1, hts⟩ hM ⟨va_cnB n hts (gG_good hcd) rfl hrm.1 hrm.2 (hW.2.2.1.2.1 _ hw.1) (hts _ hw.2.2) hnm hR, hts _ hw.2.1, trivial⟩ ⟨gBlind, fun U hU hw1 => ⟨rfl, ?_⟩⟩ rfl (by rw [List.length_map]; exact hn) hl.1 (by rw [List.map_append, List.map_reverse]) ?_ hd ⟨hf.2.2.2.2.2.2.1, hf.2.2.2.2.2.2.2⟩) hf.2.2.2.2.2.1 hW hS (fun H1 locs1 hW1 hS1 => ?_)
  · show gWd G u σ U U.heap
    rw [hU]
    exact gWd_warm hw1 hW
  · rw [gCat]
    show 2 * 0 + _ ≤ 8
    omega
  · rw [gStk]
    exact k hf H1 locs1 la hW1 hS1 hl
end GCL
