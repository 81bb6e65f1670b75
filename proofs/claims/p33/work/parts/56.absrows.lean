/-! contracts over abstract states: I tells which memories show a state -/
def rmN (fr lo k : Nat) : Room := { frames := fr, cells := k, slots := 6 * k, locals := lo }
def gQA {τ : Type} (I : τ → gM → Prop) (G : gX) (u : gU) (t1 : τ) (r : Option Value) : Array Value → State → Outcome → State → Prop := fun _ st oc t => oc = .returned (r.map (gV G)) ∧ (∃ m : gM, I t1 m ∧ gWd G u m t t.heap) ∧ va_F (gA G) st t
def gPA {τ : Type} (I : τ → gM → Prop) (G : gX) (u : gU) (t : τ) : State → Prop := fun U => ∃ m : gM, I t m ∧ gWd G u m U U.heap
def gMetA {τ : Type} (I : τ → gM → Prop) (l : Launch) (G : gX) (u : gU) (y : MethodName) (cd : Cond) (fr lo k : Nat) (as : List Value) (t t1 : τ) (r : Option Value) : Prop := Met l y (cd :: gG) (rmN fr lo k) (va_Pc (as.map (gV G)) (gPA I G u t)) (gQA I G u t1 r) k (6 * k) (gA G)
def gEq : gM → gM → Prop := fun a m => m = a
theorem gMetA_map {τ : Type} {I : τ → gM → Prop} {l : Launch} {G : gX} {u : gU} {y : MethodName} {cd : Cond} {fr lo k : Nat} {as : List Value} {t t1 : τ} {r : Option Value} (h : ∀ m, I t m → ∃ m1, I t1 m1 ∧ gMetA gEq l G u y cd fr lo k as m m1 r) : gMetA I l G u y cd fr lo k as t t1 r := by
  intro p e ha hc hk s m args below hf happ hP hK
  obtain ⟨ha1, mm, hI, hW⟩ := hP
  obtain ⟨m1, hI1, hM⟩ := h mm hI
  obtain ⟨n, o, a1, a2, a3, ⟨b1, ⟨m2, hm2, b2⟩, b3⟩, b4⟩ := hM p e ha hc hk s m args below hf happ ⟨ha1, mm, rfl, hW⟩ hK
  have hm3 : m2 = m1 := hm2
  subst hm3
  exact ⟨n, o, a1, a2, a3, ⟨b1, ⟨m2, hI1, b2⟩, b3⟩, b4⟩
theorem gMetW_A {l : Launch} {G : gX} {u : gU} {y : MethodName} {cd : Cond} {fr lo : Nat} {as : List Value} {m m1 : gM} {r : Option Value} (h : gMetW l G u u y cd { frames := fr, cells := 1, slots := 6, locals := lo } as m m1 r) : gMetA gEq l G u y cd fr lo 1 as m m1 r := by
  intro p e ha hc hk s mi args below hf happ hP hK
  obtain ⟨ha1, mm, hI, hW⟩ := hP
  have hm : mm = m := hI
  subst hm
  obtain ⟨n, o, a1, a2, a3, ⟨b1, b2, b3⟩, b4⟩ := h p e ha hc hk s mi args below hf happ ⟨ha1, hW⟩ hK
  exact ⟨n, o, a1, a2, a3, ⟨b1, ⟨m1, rfl, b2⟩, b3⟩, b4⟩
theorem gMet_A {τ : Type} {I : τ → gM → Prop} {l : Launch} {G : gX} {u : gU} {y : MethodName} {cd : Cond} {fr lo : Nat} {as : List Value} {t : τ} {r : Option Value} (h : ∀ m : gM, gMet l G u y cd { frames := fr, cells := 0, slots := 0, locals := lo } as m m r) : gMetA I l G u y cd fr lo 0 as t t r := by
  intro p e ha hc hk s mi args below hf happ hP hK
  obtain ⟨ha1, mm, hI, hW⟩ := hP
  obtain ⟨n, o, a1, a2, a3, ⟨b1, b2, b3⟩, b4⟩ := h mm p e ha hc hk s mi args below hf happ ⟨ha1, hW⟩ hK
  exact ⟨n, o, a1, a2, a3, ⟨b1, ⟨mm, hI, b2⟩, b3⟩, b4⟩
/-- the frame when n calls that may throw are done -/
def gYn (Y : gY) (n : Nat) : gY := gYs Y Y.2.1 ((gCs Y).1 + n) ((gCs Y).2 + 6 * n)
theorem gYn_nL {Y : gY} {n : Nat} : gNL (gYn Y n) = gNL Y := gYs_nL
theorem gYn0 {Y : gY} : gYn Y 0 = Y := by
  obtain ⟨G, u, nL, p, l, e, R, s, m, args, below, meth, c, cells, slots, Q⟩ := Y
  rfl
def AL {τ : Type} (I : τ → gM → Prop) (Y : gY) (cc : ByteArray) (own : String) (pc : Nat) (ls : List (Option Value)) (st : List Value) (s : τ × Nat) : Prop := ∀ m : gM, I s.1 m → AW (gYn Y s.2) cc own pc ls st m
def gBud (Y : gY) (K : Nat) : Prop := (gCs Y).1 + K ≤ (gRm Y).cells ∧ (gCs Y).2 + 6 * K ≤ (gRm Y).slots
def gEndA {τ : Type} (I : τ → gM → Prop) (Y : gY) (ret : Option FieldType) (k : Nat) (t1 : τ) (r : Option Value) : Prop := match Y with
  | (G, u, _, _, _, _, _, s, _, args, below, meth, _, cells, slots, Q) => meth.sig.returnType = ret ∧ meth.locks = false ∧ Q = MQ below (gQA I G u t1 r) args s k (6 * k) (gA G) ∧ cells = 0 ∧ slots = 0
theorem gMetA_of {τ : Type} {I : τ → gM → Prop} {l : Launch} {G : gX} {u : gU} {y : MethodName} {fr lo K : Nat} {as : List Value} {t t1 : τ} {r : Option Value} {cc : ByteArray} {maxL k : Nat} {ret : Option FieldType} {own : String} (hy : plainName y.cls = true) (hown : y.cls = own) (hlen : (lg_sl (as.map (gV G))).length ≤ maxL) (ls : List (Option Value)) (hls : gArgs as ++ List.replicate k none = ls)
    (body : ∀ Y : gY, Y.1 = G → Y.2.1 = u → gNL Y = maxL → gLn Y = l → gRm Y = rmN fr lo K → gBud Y K → gEndA I Y ret K t1 r → AL I Y cc own 0 ls [] (t, 0)) : gMetA I l G u y (.code y cc maxL ret) fr lo K as t t1 r := by
  refine Met.ofW (cc := cc) (maxL := maxL) (ret := ret) hy rfl ?_
  intro p e s m args below meth c s₁ B hml hv
  obtain ⟨rfl, mm, hI, hW⟩ := hv
  have hts := atoms_spec (ws := Cond.code y cc maxL ret :: gG) B.pre
  have hown' : s.vm.findClass own = some m.cls := by rw [← hown]; exact findClass_of_methodNamed B.named
  have hl := lv_entry (as.map (gV G)) (n := maxL) hlen
  rw [lg_entry_eq]
  generalize (lg_sl (as.map (gV G)) ++ List.replicate (maxL - (lg_sl (as.map (gV G))).length) Slot.unset).toArray = la at hl ⊢
  have hl2 : lv_has la maxL (gPr G 0 ls) := by rw [← hls, gPr_args]; exact hl
  exact body (G, u, maxL, p, l, e, rmN fr lo K, s, m, (as.map (gV G)).toArray, below, meth, c, 0, 0, MQ below (gQA I G u t1 r) (as.map (gV G)).toArray s K (6 * K) (gA G)) rfl rfl rfl rfl rfl ⟨Nat.le_of_eq (Nat.zero_add _), Nat.le_of_eq (Nat.zero_add _)⟩ ⟨B.returns, B.notSynchronized, rfl, rfl, rfl⟩ mm hI ⟨B.exec, B.bytes, hml, hown', fun w hw => hts w (List.mem_cons_of_mem _ hw), hW.2.2.2.2, Nat.zero_le _, Nat.zero_le _⟩ s.heap [] la hW va_S.rf hl2
theorem gBlindA {τ : Type} {I : τ → gM → Prop} {G : gX} {u : gU} {t : τ} {av : List Value} : FrameBlind (va_Pc av (gPA I G u t)) := by
  intro a U g mk h
  obtain ⟨h1, mm, hI, h2⟩ := h
  exact ⟨h1, mm, hI, gWd_same (s := U) (U := U.calling g mk a) rfl h2⟩
/-- a call: what the callee may make must be left -/
def gCN {τ β : Type} (K : Nat) (s : τ × Nat) (kc : Nat) (F : Option (τ × Int32)) (k : τ × Nat → Int32 → Option β) : Option β := if s.2 + kc ≤ K then (match F with | none => none | some q => k (q.1, s.2 + kc) q.2) else none
theorem gCN_some {τ β : Type} {K kc : Nat} {s : τ × Nat} {F : Option (τ × Int32)} {k : τ × Nat → Int32 → Option β} {o : β} (h : gCN K s kc F k = some o) : ∃ (s1 : τ × Nat) (x : Int32), F = some (s1.1, x) ∧ s1.2 = s.2 + kc ∧ s1.2 ≤ K ∧ k s1 x = some o := by
  unfold gCN at h
  split at h
  · rename_i hk
    cases F with
    | none => cases h
    | some q => exact ⟨(q.1, s.2 + kc), q.2, rfl, rfl, hk, h⟩
  · cases h
def gRN {τ : Type} (K : Nat) (s : τ × Nat) (x : Int32) : Option (τ × Int32) := if s.2 ≤ K then some (s.1, x) else none
theorem gRN_some {τ : Type} {K : Nat} {s : τ × Nat} {x : Int32} {o : τ × Int32} (h : gRN K s x = some o) : s.2 ≤ K ∧ o = (s.1, x) := by
  unfold gRN at h
  split at h
  · rename_i hk
    exact ⟨hk, (Option.some.inj h).symm⟩
  · cases h
section GAB
variable {τ : Type} {I : τ → gM → Prop} {Y : gY} {cc : ByteArray} {own : String} {pc : Nat} {ls : List (Option Value)} {st stk : List Value} {m : gM}
theorem r_iretA {s : τ × Nat} {K : Nat} {x : Int32} {o : τ × Int32} (hd : decode cc pc = .ok (.ireturn, 1)) (h : gRN K s x = some o) (he : gEndA I Y (some .int) K o.1 (some (.int o.2))) (hI : I s.1 m) : AW (gYn Y s.2) cc own pc ls [.int x] m := by
  obtain ⟨hk, rfl⟩ := gRN_some h
  obtain ⟨G, u, nL, p, l, e, R, s0, mi, args, below, meth, c, cells, slots, Q⟩ := Y
  obtain ⟨h1, h2, rfl, rfl, rfl⟩ := he
  intro hf H locs la hW hS hl
  refine W.widen (k := K) (n := 6 * K) (show 0 + s.2 ≤ K by omega) (show 0 + 6 * s.2 ≤ 6 * K by omega) ?_
  exact W.iret (v := x) hf.1 hf.2.1 h1 (fun t ht hw => ⟨rfl, ⟨m, hI, by rw [ht]; exact gWd_warm hw hW⟩, hS.F ht⟩) hS.2.2 hd
theorem r_zretA {s : τ × Nat} {K : Nat} {x : Int32} {ty : FieldType} {o : τ × Int32} (hd : decode cc pc = .ok (.ireturn, 1)) (hty : narrow ty (.int x) = .int (vp_nar ty x)) (h : gRz ty x (gRN K s x) = some o) (he : gEndA I Y (some ty) K o.1 (some (.int o.2))) (hI : I s.1 m) : AW (gYn Y s.2) cc own pc ls [.int x] m := by
  unfold gRz at h
  split at h
  · rename_i hn
    obtain ⟨hk, rfl⟩ := gRN_some h
    obtain ⟨G, u, nL, p, l, e, R, s0, mi, args, below, meth, c, cells, slots, Q⟩ := Y
    obtain ⟨h1, h2, rfl, rfl, rfl⟩ := he
    intro hf H locs la hW hS hl
    refine W.widen (k := K) (n := 6 * K) (show 0 + s.2 ≤ K by omega) (show 0 + 6 * s.2 ≤ 6 * K by omega) ?_
    exact W.zret (v := x) hf.1 hf.2.1 h1 (by rw [hty, hn]) (fun t ht hw => ⟨rfl, ⟨m, hI, by rw [ht]; exact gWd_warm hw hW⟩, hS.F ht⟩) hS.2.2 hd
  · cases h
variable {y : MethodName} {bytes : ByteArray} {maxL n idx : Nat} {ret : Option FieldType} {r : Option Value}
theorem r_callA {s s1 : τ × Nat} {kc K fr lo : Nat} (as : List Value) (hM : gMetA I (gLn Y) Y.1 Y.2.1 y (.code y bytes maxL ret) fr lo kc as s.1 s1.1 r) (hcd : Cond.code y bytes maxL ret ∈ gG) (hw : Cond.methodLink own idx y ∈ gG ∧ Cond.static y ∈ gG ∧ Cond.initialized y.cls ∈ gG) (hnm : gNm y n) (hn : as.length = n) (hR : fr + 1 ≤ (gRm Y).frames ∧ 8 + (maxL + 11) + lo ≤ (gRm Y).locals) (hst : as.reverse ++ st = stk) (hcat : (st.map fun v => v.category).sum ≤ 8) (hd : decode cc pc = .ok (.invokestatic idx, 3)) (hB : gBud Y K) (h1 : s1.2 = s.2 + kc) (h2 : s1.2 ≤ K) (hI : I s.1 m)
    (k : ∀ m1 : gM, I s1.1 m1 → AW (gYn Y s1.2) cc own (pc + 3) ls (r.toList ++ st) m1) : AW (gYn Y s.2) cc own pc ls stk m := by
  subst hst
  obtain ⟨G, u, nL, p, l, e, R, s0, mi, args, below, meth, c, cells, slots, Q⟩ := Y
  intro hf H locs la hW hS hl
  have hts := hf.2.2.2.2.1
  have hb1 : cells + K ≤ R.cells := hB.1
  have hb2 : slots + 6 * K ≤ R.slots := hB.2
  intro T hT X
  obtain ⟨v, st₀, t, T', L, h0, X', hL, e1, e2, ⟨hv, ⟨m1, hI1, hw2⟩, hF⟩, stp⟩ := va_runS (H := H) (locs := locs) (cells := cells + s.2) (slots := slots + 6 * s.2) (e := e) (below := below) (meth := meth) (As := as.map (gV G)) (rest := st.map (gV G)) (n := n) (Ts := gG) (g := F0 mi pc la ((as.reverse ++ st).map (gV G))) ⟨hf.1, hf.2.1, hf.2.2.1, hf.2.2.2.1, hts⟩ hM ⟨callB_of n hts (gG_good hcd) rfl rfl rfl (hts _ hw.2.2) (hts _ hw.1) hnm hR, hts _ hw.2.1⟩ ⟨gBlindA, fun U hU hw1 => ⟨rfl, m, hI, by
    rw [hU]
    exact gWd_warm hw1 hW⟩⟩ rfl (by rw [List.length_map]; exact hn) hl.1 (by rw [F0, List.map_append, List.map_reverse]) (by
    rw [gCat]
    show 2 * 0 + _ ≤ 8
    omega) hd ⟨show cells + s.2 + kc ≤ R.cells by omega, show slots + 6 * s.2 + 6 * kc ≤ R.slots by omega⟩ T hT X
  cases hv
  obtain ⟨k1, k2, k3⟩ := vx_keep h0 e1 hS (fun q _ h => h) (fun q h => h) hL hF
  rw [show cells + s.2 + kc = cells + s1.2 by omega, show slots + 6 * s.2 + 6 * kc = slots + 6 * s1.2 by omega] at X'
  have hf1 : gFx (gYn (G, u, nL, p, l, e, R, s0, mi, args, below, meth, c, cells, slots, Q) s1.2) cc own := ⟨hf.1, hf.2.1, hf.2.2.1, hf.2.2.2.1, hf.2.2.2.2.1, hf.2.2.2.2.2.1, show cells + s1.2 ≤ R.cells by omega, show slots + 6 * s1.2 ≤ R.slots by omega⟩
  obtain ⟨t2, a1, b1⟩ := k m1 hI1 hf1 T'.heap (locs ++ L) la ⟨by rw [e1]; exact hw2.1, hw2.2.1, hW.2.2.1, gSt_S hW.2.2.2.1 hS k3 hf.2.2.2.2.2.1, Nat.le_trans hf.2.2.2.2.2.1 k3.1⟩ k3 hl T' rfl X'
  refine ⟨t2, stp t2 ?_, b1⟩
  rw [← gStk] at a1
  exact a1
theorem r_callAW {s s1 : τ × Nat} {kc K fr lo : Nat} {hh : List (Nat × Nat × Nat × Nat)} (as : List Value) (hM : gMetA I (gLn Y) Y.1 Y.2.1 y (.codeWith y bytes maxL ret hh) fr lo kc as s.1 s1.1 r) (hcd : Cond.codeWith y bytes maxL ret hh ∈ gG) (hw : Cond.methodLink own idx y ∈ gG ∧ Cond.static y ∈ gG ∧ Cond.initialized y.cls ∈ gG) (hnm : gNm y n) (hn : as.length = n) (hR : fr + 1 ≤ (gRm Y).frames ∧ 8 + (maxL + 11) + lo ≤ (gRm Y).locals) (hst : as.reverse ++ st = stk) (hcat : (st.map fun v => v.category).sum ≤ 8) (hd : decode cc pc = .ok (.invokestatic idx, 3)) (hB : gBud Y K) (h1 : s1.2 = s.2 + kc) (h2 : s1.2 ≤ K) (hI : I s.1 m)
    (k : ∀ m1 : gM, I s1.1 m1 → AW (gYn Y s1.2) cc own (pc + 3) ls (r.toList ++ st) m1) : AW (gYn Y s.2) cc own pc ls stk m := by
  subst hst
  obtain ⟨G, u, nL, p, l, e, R, s0, mi, args, below, meth, c, cells, slots, Q⟩ := Y
  intro hf H locs la hW hS hl
  have hts := hf.2.2.2.2.1
  have hb1 : cells + K ≤ R.cells := hB.1
  have hb2 : slots + 6 * K ≤ R.slots := hB.2
  intro T hT X
  obtain ⟨v, st₀, t, T', L, h0, X', hL, e1, e2, ⟨hv, ⟨m1, hI1, hw2⟩, hF⟩, stp⟩ := vx_runSW (H := H) (locs := locs) (cells := cells + s.2) (slots := slots + 6 * s.2) (e := e) (below := below) (meth := meth) (hh := hh) (As := as.map (gV G)) (rest := st.map (gV G)) (n := n) (Ts := gG) (g := F0 mi pc la ((as.reverse ++ st).map (gV G))) ⟨hf.1, hf.2.1, hf.2.2.1, hf.2.2.2.1, hts⟩ hM ⟨⟨rfl, rfl, hR.1, hR.2, pay_in hts (gG_good hcd), List.mem_cons_self⟩, hts _ hcd, hts _ hw.2.2, ⟨hnm.1, hnm.2.1⟩, fun sig h => by
      have h2 := hnm.2.2
      rw [h] at h2
      exact (Option.some.inj h2).symm, hts _ hw.1, hts _ hw.2.1⟩ ⟨gBlindA, fun U hU hw1 => ⟨rfl, m, hI, by
    rw [hU]
    exact gWd_warm hw1 hW⟩⟩ rfl (by rw [List.length_map]; exact hn) hl.1 (by rw [F0, List.map_append, List.map_reverse]) (by
    rw [gCat]
    show 2 * 0 + _ ≤ 8
    omega) hd ⟨show cells + s.2 + kc ≤ R.cells by omega, show slots + 6 * s.2 + 6 * kc ≤ R.slots by omega⟩ T hT X
  cases hv
  obtain ⟨k1, k2, k3⟩ := vx_keep h0 e1 hS (fun q _ h => h) (fun q h => h) hL hF
  rw [show cells + s.2 + kc = cells + s1.2 by omega, show slots + 6 * s.2 + 6 * kc = slots + 6 * s1.2 by omega] at X'
  have hf1 : gFx (gYn (G, u, nL, p, l, e, R, s0, mi, args, below, meth, c, cells, slots, Q) s1.2) cc own := ⟨hf.1, hf.2.1, hf.2.2.1, hf.2.2.2.1, hf.2.2.2.2.1, hf.2.2.2.2.2.1, show cells + s1.2 ≤ R.cells by omega, show slots + 6 * s1.2 ≤ R.slots by omega⟩
  obtain ⟨t2, a1, b1⟩ := k m1 hI1 hf1 T'.heap (locs ++ L) la ⟨by rw [e1]; exact hw2.1, hw2.2.1, hW.2.2.1, gSt_S hW.2.2.2.1 hS k3 hf.2.2.2.2.2.1, Nat.le_trans hf.2.2.2.2.2.1 k3.1⟩ k3 hl T' rfl X'
  refine ⟨t2, stp t2 ?_, b1⟩
  rw [← gStk] at a1
  exact a1
end GAB
/-! the law's two methods that call nothing -/
def clV (L : Nat) (xs : Nat → Int32) (k : Int32) : Int32 := (if k < Int32.ofNat L then xs k.toNatClampNeg else 15519947 * (k + 3) + 11923) &&& 2147483647
