/-! objects that are made: each at its flat address, in the order of gObs -/
def gPl (G : gX) : Prop := ∀ (k : Nat) (o : Nat × Nat × Nat), gObs[k]? = some o → G.2.2.1 o.1 = G.2.2.2 + k
def gZ (a n : Nat) (σ : gM) : gM := fun x => if a ≤ x ∧ x < a + n then 0 else σ x
def gZt (a n : Nat) (τ : Nat → Nat) : Nat → Nat := fun x => if a ≤ x ∧ x < a + n then 0 else τ x
def gNew (u : gU) (a n : Nat) : gU := (u.1 + 1, gZt a n u.2.1, u.2.2)
def gPut (u : gU) (x b : Nat) : gU := (u.1, fun y => if y = x then b + 1 else u.2.1 y, u.2.2)
def gHz (Y : gY) (n0 : Nat) : Prop := match Y with
  | (G, u, _, _, _, _, _, s, _, _, _, _, _, cells, _, _) => gPl G ∧ s.heap.size = G.2.2.2 + n0 ∧ n0 + cells = u.1 ∧ u.1 ≤ 1670
def gIni (Y : gY) : Prop := match Y with
  | (_, _, _, _, _, _, _, _, _, _, _, meth, _, _, _, _) => meth.name = "<init>"
theorem gHz_s {Y : gY} {n0 : Nat} {u : gU} {a b : Nat} (h : gHz Y n0) (ha : n0 + a = u.1) (h8 : u.1 ≤ 1670) : gHz (gYs Y u a b) n0 := by
  obtain ⟨G, u0, nL, p, l, e, R, s, m, args, below, meth, c, cells, slots, Q⟩ := Y
  exact ⟨h.1, h.2.1, ha, h8⟩
theorem gIni_s {Y : gY} {u : gU} {a b : Nat} (h : gIni Y) : gIni (gYs Y u a b) := by
  obtain ⟨G, u0, nL, p, l, e, R, s, m, args, below, meth, c, cells, slots, Q⟩ := Y
  exact h
theorem gIn_mono {u u' : gU} {a kd len : Nat} (h : gIn u a kd len) (hu : u.1 ≤ u'.1) : gIn u' a kd len := by
  obtain ⟨k, hk⟩ := List.getElem?_of_mem h
  have h1 := gTake_get hk
  have h2 : k < u.1 := by
    have := (List.getElem?_eq_some_iff.mp hk).1
    rw [List.length_take] at this
    omega
  refine List.mem_of_getElem? (i := k) ?_
  rw [List.getElem?_take, if_pos (by omega)]
  exact h1
theorem gIn_at {u : gU} {a kd len k : Nat} (h : gObs[k]? = some (a, kd, len)) (hk : k < u.1) : gIn u a kd len := by
  refine List.mem_of_getElem? (i := k) ?_
  rw [List.getElem?_take, if_pos hk]
  exact h
theorem gCell_congr2 {G : gX} {u u' : gU} {σ σ' : gM} {o : Nat × Nat × Nat} (h2 : u'.2.2 = u.2.2) (h : ∀ x, o.1 ≤ x → x < o.1 + gSz o → σ' x = σ x ∧ u'.2.1 x = u.2.1 x) : gCell G u' σ' o = gCell G u σ o := by
  unfold gCell
  unfold gSz at h
  split
  · rename_i h6
    rw [if_pos h6] at h
    congr 2
    refine List.map_congr_left (fun j hj => ?_)
    have hq := h (o.1 + j) (by omega) (by have := List.mem_range.mp hj; omega)
    unfold gFld
    rw [hq.1, hq.2]
  · rename_i h6
    rw [if_neg h6] at h
    split
    · congr 4
      funext j
      split
      · exact (h _ (by omega) (by omega)).1
      · rfl
    · split
      · congr 7
        funext j
        split
        · rw [(h _ (by omega) (by omega)).2]
        · rfl
      · rw [h2]
theorem gWs_set2 {G : gX} {u u' : gU} {σ σ' : gM} {k a kd len : Nat} (hk : (gObs.take u.1)[k]? = some (a, kd, len)) (h1 : u'.1 = u.1) (h2 : u'.2.2 = u.2.2) (h : ∀ x, (x < a ∨ a + gSz (a, kd, len) ≤ x) → σ' x = σ x ∧ u'.2.1 x = u.2.1 x) : (gWs G u σ).set k (G.2.2.1 a, gCell G u' σ' (a, kd, len)) = gWs G u' σ' := by
  refine List.ext_getElem? (fun i => ?_)
  by_cases hik : i = k
  · subst hik
    have hl : i < (gWs G u σ).length := by
      unfold gWs
      rw [List.length_map]
      exact (List.getElem?_eq_some_iff.mp hk).1
    rw [List.getElem?_set_self hl]
    unfold gWs
    rw [List.getElem?_map, h1, hk]
    rfl
  · rw [List.getElem?_set_ne (Ne.symm hik)]
    unfold gWs
    rw [List.getElem?_map, List.getElem?_map, h1]
    cases ho : (gObs.take u.1)[i]? with
    | none => rfl
    | some o =>
      show some (G.2.2.1 o.1, gCell G u σ o) = some (G.2.2.1 o.1, gCell G u' σ' o)
      rw [gCell_congr2 (u := u) (u' := u') (σ := σ) (σ' := σ') h2 (fun x q1 q2 => h x ?_)]
      rcases gObs_apart ho hk hik with q | q
      · exact Or.inl (by have := q; simp only at this; omega)
      · exact Or.inr (by have := q; simp only at this; omega)
theorem gWs_new {G : gX} {u u' : gU} {σ σ' : gM} {a kd len : Nat} (ho : gObs[u.1]? = some (a, kd, len)) (h1 : u'.1 = u.1 + 1) (h2 : u'.2.2 = u.2.2) (h : ∀ x, (x < a ∨ a + gSz (a, kd, len) ≤ x) → σ' x = σ x ∧ u'.2.1 x = u.2.1 x) : gWs G u σ ++ [(G.2.2.1 a, gCell G u' σ' (a, kd, len))] = gWs G u' σ' := by
  unfold gWs
  rw [h1, List.take_add_one, ho, List.map_append]
  congr 1
  refine List.map_congr_left (fun o hom => ?_)
  obtain ⟨i, hi⟩ := List.getElem?_of_mem hom
  have hlt : i < u.1 := by
    have := (List.getElem?_eq_some_iff.mp hi).1
    rw [List.length_take] at this
    omega
  have hap := gChain_ord gObs gObs_chain i u.1 o (a, kd, len) hlt (gTake_get hi) ho
  rw [gCell_congr2 (u := u) (u' := u') (σ := σ) (σ' := σ') h2 (fun x q1 q2 => h x (Or.inl (by have := hap; simp only at this; omega)))]
theorem gWs_at {G : gX} {u : gU} {σ : gM} {k : Nat} {o : Nat × Nat × Nat} (h : gObs[k]? = some o) (hk : k < u.1) : (gWs G u σ)[k]? = some (G.2.2.1 o.1, gCell G u σ o) := by
  unfold gWs
  rw [List.getElem?_map, List.getElem?_take, if_pos hk, h]
  rfl
theorem gObs_at {k : Nat} (hk : k < 1670) : ∃ o, gObs[k]? = some o := ⟨_, List.getElem?_eq_getElem (by rw [gObs_len]; exact hk)⟩
theorem gWs_len {G : gX} {u : gU} {σ : gM} (h : u.1 ≤ 1670) : (gWs G u σ).length = u.1 := by
  unfold gWs
  rw [List.length_map, List.length_take, gObs_len]
  omega
/-- where the next object lies -/
theorem gNewAt {G : gX} {u : gU} {σ : gM} {H1 : Heap} {q n1 : Nat} {ce : va_E} {a kd len : Nat} (hpl : gPl G) (h8 : u.1 < 1670) (ho : gObs[u.1]? = some (a, kd, len)) (hP : va_P G.1 vwCl (gWs G u σ ++ [(q, ce)]) H1) (hD : va_D (gA G) (gWs G u σ ++ [(q, ce)])) (hz : H1.size ≤ G.2.2.2 + (u.1 + 1)) : q = G.2.2.1 a := by
  rw [show a = (a, kd, len).1 from rfl, hpl u.1 _ ho]
  have hl := gWs_len (G := G) (σ := σ) (Nat.le_of_lt h8)
  have hlast : (gWs G u σ ++ [(q, ce)])[u.1]? = some (q, ce) := by
    rw [List.getElem?_append_right (by omega), hl, Nat.sub_self]
    rfl
  have h1 : q < H1.size := vx_lt hP hlast
  have h2 : G.2.2.2 ≤ q := hD.2 _ _ hlast
  by_cases h3 : q < G.2.2.2 + u.1
  · obtain ⟨o, ho'⟩ := gObs_at (k := q - G.2.2.2) (by omega)
    have h4 : (gWs G u σ ++ [(q, ce)])[q - G.2.2.2]? = some (G.2.2.1 o.1, gCell G u σ o) := by
      rw [List.getElem?_append_left (by omega)]
      exact gWs_at ho' (by omega)
    have h5 := hD.1 _ _ _ _ h4 hlast (by
      show G.2.2.1 o.1 = q
      rw [hpl _ _ ho']
      omega)
    omega
  · omega
theorem gSizeUp {p : Program} {l : Launch} {e : Env} {R : Room} {s : State} {m : MethodId} {args : Array Value} {below : List Frame} {meth : Method} {c : Code} {T : State} {locs : List Loc} {cells slots : Nat} (X : Stand p l e R s m args below meth c T locs cells slots) : T.heap.size ≤ s.heap.size + cells := X.same.2.2.1
theorem gSizeLo {G : gX} {u : gU} {σ : gM} {s : State} {H : Heap} (hpl : gPl G) (h8 : u.1 ≤ 1670) (hW : gWd G u σ s H) : G.2.2.2 + u.1 ≤ H.size := by
  by_cases h0 : u.1 = 0
  · rw [h0]
    exact hW.2.2.2.2
  · obtain ⟨o, ho⟩ := gObs_at (k := u.1 - 1) (by omega)
    have h1 := vx_lt hW.1 (gWs_at (G := G) (u := u) (σ := σ) ho (by omega))
    have h2 := hpl _ _ ho
    simp only at h1
    omega
/-- what is known of classes whose arrays are made -/
def gAO (U : State) : Prop := va_AO "LoafRounds$Book" U ∧ va_AO "LoafRounds$Customer" U
def gAOy (Y : gY) : Prop := match Y with | (_, _, _, _, _, _, _, s, _, _, _, _, _, _, _, _) => gAO s
theorem gAOy_s {Y : gY} {u : gU} {a b : Nat} (h : gAOy Y) : gAOy (gYs Y u a b) := by
  obtain ⟨G, u0, nL, p, l, e, R, s, m, args, below, meth, c, cells, slots, Q⟩ := Y
  exact h
section GMK
variable {Y : gY} {cc : ByteArray} {own : String} {pc : Nat} {ls : List (Option Value)} {st stk : List Value} {σ σ1 : gM}
theorem r_newO {C : String} {T : u_T} {N kd idx a n0 : Nat} (ty : Nat → FieldType) (hc : vwCl[kd]? = some (C, T, N)) (h6 : kd < 6) (hN : gNf kd = N) (hty : ∀ k, k < N → parseFieldDescriptor (T k).2.2.1 = some (ty k)) (hdef : ∀ j, j < N → defaultValue (ty j) = if gRef kd j = true then .null else .int 0) (hin : ∀ w ∈ u_ws C T N, w ∈ gG) (hw : Cond.classLink own idx C ∈ gG ∧ Cond.instantiable C N ∈ gG ∧ Cond.initialized C ∈ gG) (hd : decode cc pc = .ok (.new idx, 3)) (ho : gObs[Y.2.1.1]? = some (a, kd, 0)) (hz : gHz Y n0) (h8 : Y.2.1.1 < 1670) (hroom : (gCs Y).1 + 1 ≤ (gRm Y).cells ∧ (gCs Y).2 + N ≤ (gRm Y).slots)
    (k : AW (gYs Y (gNew Y.2.1 a N) ((gCs Y).1 + 1) ((gCs Y).2 + N)) cc own (pc + 3) ls (.ref a :: st) (gZ a N σ)) : AW Y cc own pc ls st σ := by
  obtain ⟨G, u, nL, p, l, e, R, s, m, args, below, meth, c, cells, slots, Q⟩ := Y
  intro hf H locs la hW hS hl
  obtain ⟨hpl, hsz, hcn, -⟩ := hz
  have hts := hf.2.2.2.2.1
  subst hN
  have hsize : gSz (a, kd, 0) = gNf kd := by unfold gSz; rw [if_pos h6]
  refine va_new (T := T) hf.1 hf.2.1 hts hin ty hty hf.2.2.2.1 (hts _ hw.1) (hts _ hw.2.1) (hts _ hw.2.2) hW.2.2.1.1 hW.1 hW.2.1 hS (fun q hq => Nat.le_trans hf.2.2.2.2.2.1 hq) hc (fs := (List.range (gNf kd)).map (gFld G (gNew u a (gNf kd)) (gZ a (gNf kd) σ) kd a)) (fun j hj => ?_) hroom.1 hroom.2 hd (fun q H1 hP1 hD1 hS1 => ?_)
  · rw [hdef j hj]
    unfold vp_V
    rw [List.getD_eq_getElem?_getD, gFs_get hj]
    show _ = gFld G (gNew u a (gNf kd)) (gZ a (gNf kd) σ) kd a j
    unfold gFld
    split
    · simp only [gNew, gZt]
      rw [if_pos (by omega)]
      rfl
    · simp only [gZ]
      rw [if_pos (by omega)]
  · intro T1 hT1 X1
    have hup := gSizeUp X1
    have hq : q = G.2.2.1 a := gNewAt (u := u) (n1 := 0) hpl h8 ho hP1 hD1 (by rw [hT1] at hup; omega)
    subst hq
    have e1 := gWs_new (G := G) (σ := σ) (σ' := gZ a (gNf kd) σ) (u' := gNew u a (gNf kd)) ho rfl rfl (fun x hx => by
      rw [hsize] at hx
      simp only [gZ, gNew, gZt]
      rw [if_neg (by omega), if_neg (by omega)]
      exact ⟨rfl, rfl⟩)
    rw [gCell_obj h6] at e1
    rw [e1] at hP1 hD1
    exact k ⟨hf.1, hf.2.1, hf.2.2.1, hf.2.2.2.1, hf.2.2.2.2.1, hf.2.2.2.2.2.1, hroom.1, hroom.2⟩ H1 locs la ⟨hP1, hD1, hW.2.2.1, gSt_S hW.2.2.2.1 hS hS1 hf.2.2.2.2.2.1, Nat.le_trans hf.2.2.2.2.2.1 hS1.1⟩ hS1 hl T1 hT1 X1
theorem r_newI {kd len a n0 : Nat} {atype : ArrayType} {n : Int32} (h6 : 6 ≤ kd) (h9 : kd < 9) (hat : newarray.typeOf atype = gTi kd) (hobj : ∀ z, gTi kd ≠ .object z) (hdv : defaultValue (gTi kd) = .int 0) (hn : ¬ n < 0) (hN : n.toNatClampNeg = len) (hb4 : len * componentBytes (gTi kd) ≤ 536870912) (hw : Cond.arrayClass (gTi kd) ∈ gG) (hd : decode cc pc = .ok (.newarray atype, 2)) (ho : gObs[Y.2.1.1]? = some (a, kd, len)) (hz : gHz Y n0) (h8 : Y.2.1.1 < 1670) (hroom : (gCs Y).1 + 1 ≤ (gRm Y).cells ∧ (gCs Y).2 + len ≤ (gRm Y).slots)
    (k : AW (gYs Y (gNew Y.2.1 a len) ((gCs Y).1 + 1) ((gCs Y).2 + len)) cc own (pc + 2) ls (.ref a :: st) (gZ a len σ)) : AW Y cc own pc ls (.int n :: st) σ := by
  obtain ⟨G, u, nL, p, l, e, R, s, m, args, below, meth, c, cells, slots, Q⟩ := Y
  intro hf H locs la hW hS hl
  obtain ⟨hpl, hsz, hcn, -⟩ := hz
  have hts := hf.2.2.2.2.1
  have hsize : gSz (a, kd, len) = len := by unfold gSz; rw [if_neg (by simp only; omega)]
  refine va_newa (a0 := (len, .inl (fun j => if j < len then gZ a len σ (a + j) else 0))) hf.1 hf.2.1 (by rw [hat]; exact hts _ hw) hat hW.2.2.1.1 hW.1 hW.2.1 hS (fun q hq => Nat.le_trans hf.2.2.2.2.2.1 hq) (fun cA => ?_) hn hN hb4 hroom.1 hroom.2 hd (fun q cA H1 hK1 hP1 hD1 hS1 => ?_)
  · rw [hdv]
    show arrV cA len (fun j => .int (if j < len then gZ a len σ (a + j) else 0)) = _
    congr 1
    funext j
    split
    · simp only [gZ]
      rw [if_pos (by omega)]
    · rfl
  · intro T1 hT1 X1
    have hup := gSizeUp X1
    have hq : q = G.2.2.1 a := gNewAt (u := u) (n1 := 0) hpl h8 ho hP1 hD1 (by rw [hT1] at hup; omega)
    subst hq
    have hA : cA = G.2.1 kd := by
      have h1 := (hK1.2 5 (cA, gTi kd) rfl).2
      have h2 := (hW.2.2.1.1.2 (kd - 6) _ (gTy_get h6 (by omega))).2
      unfold va_RA at h1 h2
      split at h1
      · rename_i z hz
        exact absurd hz (hobj z)
      · split at h2
        · rename_i z hz
          exact absurd hz (hobj z)
        · exact Option.some.inj (h1.symm.trans h2)
    subst hA
    have e1 := gWs_new (G := G) (σ := σ) (σ' := gZ a len σ) (u' := gNew u a len) ho rfl rfl (fun x hx => by
      rw [hsize] at hx
      simp only [gZ, gNew, gZt]
      rw [if_neg (by omega), if_neg (by omega)]
      exact ⟨rfl, rfl⟩)
    rw [gCell_arr h6 h9] at e1
    rw [e1] at hP1 hD1
    exact k ⟨hf.1, hf.2.1, hf.2.2.1, hf.2.2.2.1, hf.2.2.2.2.1, hf.2.2.2.2.2.1, hroom.1, hroom.2⟩ H1 locs la ⟨hP1, hD1, hW.2.2.1, gSt_S hW.2.2.2.1 hS hS1 hf.2.2.2.2.2.1, Nat.le_trans hf.2.2.2.2.2.1 hS1.1⟩ hS1 hl T1 hT1 X1
theorem r_newQ {C : String} {kd len idx a n0 : Nat} {n : Int32} (h9 : 9 ≤ kd) (h11 : kd < 11) (hC : gTi kd = .object C) (hn : ¬ n < 0) (hN : n.toNatClampNeg = len) (hb4 : len * 4 ≤ 536870912) (hw : Cond.classLink own idx C ∈ gG) (hao : gAOy Y) (hsel : ∀ U, gAO U → va_AO C U) (hd : decode cc pc = .ok (.anewarray idx, 3)) (ho : gObs[Y.2.1.1]? = some (a, kd, len)) (hz : gHz Y n0) (h8 : Y.2.1.1 < 1670) (hroom : (gCs Y).1 + 1 ≤ (gRm Y).cells ∧ (gCs Y).2 + len ≤ (gRm Y).slots)
    (k : AW (gYs Y (gNew Y.2.1 a len) ((gCs Y).1 + 1) ((gCs Y).2 + len)) cc own (pc + 3) ls (.ref a :: st) (gZ a len σ)) : AW Y cc own pc ls (.int n :: st) σ := by
  obtain ⟨G, u, nL, p, l, e, R, s, m, args, below, meth, c, cells, slots, Q⟩ := Y
  intro hf H locs la hW hS hl
  obtain ⟨hpl, hsz, hcn, -⟩ := hz
  have hts := hf.2.2.2.2.1
  have hsize : gSz (a, kd, len) = len := by unfold gSz; rw [if_neg (by simp only; omega)]
  refine va_newq hf.1 hf.2.1 hf.2.2.2.1 (hts _ hw) (hsel _ hao) hW.2.2.1.1 hW.1 hW.2.1 hS (fun q hq => Nat.le_trans hf.2.2.2.2.2.1 hq) hn hN hb4 hroom.1 hroom.2 hd (fun q cA H1 hK1 hP1 hD1 hS1 => ?_)
  intro T1 hT1 X1
  have hup := gSizeUp X1
  have hq : q = G.2.2.1 a := gNewAt (u := u) (n1 := 0) hpl h8 ho hP1 hD1 (by rw [hT1] at hup; omega)
  subst hq
  have hA : cA = G.2.1 kd := by
    have h1 := (hK1.2 5 (cA, .object C) rfl).2
    have h2 := (hW.2.2.1.1.2 (kd - 6) _ (gTy_get (by omega) (by omega))).2
    rw [hC] at h2
    obtain ⟨_, _, _, _, _, q1⟩ := h1
    obtain ⟨_, _, _, _, _, q2⟩ := h2
    exact Option.some.inj (q1.symm.trans q2)
  subst hA
  have e1 := gWs_new (G := G) (σ := σ) (σ' := gZ a len σ) (u' := gNew u a len) ho rfl rfl (fun x hx => by
    rw [hsize] at hx
    simp only [gZ, gNew, gZt]
    rw [if_neg (by omega), if_neg (by omega)]
    exact ⟨rfl, rfl⟩)
  have e2 : (fun j => if j < len then gRn G ((gNew u a len).2.1 (a + j)) else none) = fun _ => none := by
    funext j
    split
    · simp only [gNew, gZt]
      rw [if_pos (by omega)]
      rfl
    · rfl
  rw [gCell_rar h9 h11, e2] at e1
  rw [e1] at hP1 hD1
  exact k ⟨hf.1, hf.2.1, hf.2.2.1, hf.2.2.2.1, hf.2.2.2.2.1, hf.2.2.2.2.2.1, hroom.1, hroom.2⟩ H1 locs la ⟨hP1, hD1, hW.2.2.1, gSt_S hW.2.2.2.1 hS hS1 hf.2.2.2.2.2.1, Nat.le_trans hf.2.2.2.2.2.1 hS1.1⟩ hS1 hl T1 hT1 X1
/-- a reference into a final field, by the constructor -/
theorem r_putR {C : String} {T : u_T} {N kd j idx a b : Nat} {rt : FieldType} (ty0 : Nat → FieldType) (hty : ∀ k, k < N → parseFieldDescriptor (T k).2.2.1 = some (ty0 k)) (hnm : ∀ a, a < N → ∀ b, b < N → a ≠ b → (T a).2.1 ≠ (T b).2.1) (hc : vwCl[kd]? = some (C, T, N)) (h6 : kd < 6) (hN : gNf kd = N) (hj : j < N) (hr : gRef kd j = true) (hin : ∀ w ∈ u_ws C T N, w ∈ gG) (hl : Cond.fieldLink own idx (T j).1 (T j).2.1 (T j).2.2.1 ∈ gG) (hfin : (T j).2.2.2 = true) (hdecl : (T j).1 = own) (hi : parseFieldDescriptor (T j).2.2.1 = some rt) (hrt : (∃ n, rt = .object n) ∨ ∃ t, rt = .array t) (hini : gIni Y) (hd : decode cc pc = .ok (.putfield idx, 3)) (ha : gIn Y.2.1 a kd 0)
    (k : AW (gYs Y (gPut Y.2.1 (a + j) b) (gCs Y).1 (gCs Y).2) cc own (pc + 3) ls st σ) : AW Y cc own pc ls (.ref b :: .ref a :: st) σ := by
  obtain ⟨G, u, nL, p, l, e, R, s, m, args, below, meth, c, cells, slots, Q⟩ := Y
  intro hf H locs la hW hS hlv
  obtain ⟨q0, hq0, hq⟩ := gIn_obj (G := G) (σ := σ) h6 ha
  have hn1 : narrow rt (.ref (G.2.2.1 b)) = .ref (G.2.2.1 b) := by rcases hrt with ⟨n, rfl⟩ | ⟨t, rfl⟩ <;> rfl
  have hn2 : fits rt (.ref (G.2.2.1 b)) = true := by rcases hrt with ⟨n, rfl⟩ | ⟨t, rfl⟩ <;> rfl
  subst hN
  refine va_putF (v := .ref (G.2.2.1 b)) hf.1 hf.2.1 hf.2.2.2.2.1 hin ty0 hty hnm hf.2.2.2.1 hW.2.2.1.1 hW.1 hW.2.1 hS q0 hq hc j hj (hf.2.2.2.2.1 _ (by assumption)) (fun _ h9 => h9) hfin hini hdecl hi hn1 hn2 (by simpa using hj) hd (fun H1 locs1 hP1 hD1 hS1 => ?_)
  have e1 : (gWs G u σ).set q0 (G.2.2.1 a, .inr (kd, ((List.range (gNf kd)).map (gFld G u σ kd a)).set j (.ref (G.2.2.1 b)))) = gWs G (gPut u (a + j) b) σ := by
    rw [← gWs_set2 (u := u) (u' := gPut u (a + j) b) (σ := σ) (σ' := σ) (G := G) hq0 rfl rfl (fun y hy => by
      have hs : gSz (a, kd, 0) = gNf kd := by unfold gSz; rw [if_pos h6]
      rw [hs] at hy
      refine ⟨rfl, ?_⟩
      simp only [gPut]
      rw [if_neg (by omega)]), gCell_obj h6]
    congr 4
    refine List.ext_getElem? (fun i => ?_)
    by_cases hij : i = j
    · subst hij
      rw [List.getElem?_set_self (by simpa using hj), gFs_get hj]
      simp [gFld, hr, gPut, gRn, va_rf]
    · rw [List.getElem?_set_ne (Ne.symm hij), List.getElem?_map, List.getElem?_map]
      cases hi2 : (List.range (gNf kd))[i]? with
      | none => rfl
      | some w =>
        have hw : w = i := by
          rw [List.getElem?_range] at hi2
          · exact (Option.some.inj hi2).symm
          · have := (List.getElem?_eq_some_iff.mp hi2).1
            simpa using this
        subst hw
        show some _ = some _
        congr 1
        simp [gFld, gPut, hij]
  rw [e1] at hP1 hD1
  exact k hf H1 locs1 la ⟨hP1, hD1, hW.2.2.1, gSt_S hW.2.2.2.1 hS hS1 hf.2.2.2.2.2.1, Nat.le_trans hf.2.2.2.2.2.1 hS1.1⟩ hS1 hlv
theorem r_astR {C : String} {T : u_T} {N kd ko len a b : Nat} {i : Int32} (h9 : 9 ≤ kd) (h11 : kd < 11) (hC : gTi kd = .object C) (hc : vwCl[ko]? = some (C, T, N)) (h6 : ko < 6) (hd : decode cc pc = .ok (.aastore, 1)) (ha : gIn Y.2.1 a kd len) (hb : gIn Y.2.1 b ko 0) (hi : vp_in i len)
    (k : AW (gYs Y (gPut Y.2.1 (a + i.toNatClampNeg) b) (gCs Y).1 (gCs Y).2) cc own (pc + 1) ls st σ) : AW Y cc own pc ls (.ref b :: .int i :: .ref a :: st) σ := by
  obtain ⟨G, u, nL, p, l, e, R, s, m, args, below, meth, c, cells, slots, Q⟩ := Y
  intro hf H locs la hW hS hlv
  obtain ⟨q0, hq0, hq⟩ := gIn_rar (G := G) (σ := σ) h9 h11 ha
  obtain ⟨q1, -, hq1⟩ := gIn_obj (G := G) (σ := σ) h6 hb
  have hlt : i.toNatClampNeg < len := Nat.not_le.mp fun q => hi (Or.inr q)
  refine va_astq (r := (C, T, N)) hf.1 hf.2.1 hW.2.2.1.1 hW.1 hW.2.1 hS q0 (kd - 6) q1 ko hq (by rw [gTy_get (by omega) (by omega), hC]) hq1 hc hi hd (fun H1 locs1 hP1 hD1 hS1 => ?_)
  have e1 : (gWs G u σ).set q0 (G.2.2.1 a, .inl (G.2.1 kd, len, .inr (.inr (.inr (.inr (va_up (fun j => if j < len then gRn G (u.2.1 (a + j)) else none) i.toNatClampNeg (some (G.2.2.1 b)))))))) = gWs G (gPut u (a + i.toNatClampNeg) b) σ := by
    rw [← gWs_set2 (u := u) (u' := gPut u (a + i.toNatClampNeg) b) (σ := σ) (σ' := σ) (G := G) hq0 rfl rfl (fun y hy => by
      have hs : gSz (a, kd, len) = len := by unfold gSz; rw [if_neg (by simp only; omega)]
      rw [hs] at hy
      refine ⟨rfl, ?_⟩
      simp only [gPut]
      rw [if_neg (by omega)]), gCell_rar h9 h11]
    congr 9
    funext j
    by_cases hj : j = i.toNatClampNeg
    · subst hj
      simp [va_up, gPut, hlt, gRn]
    · simp [va_up, gPut, hj]
  rw [e1] at hP1 hD1
  exact k hf H1 locs1 la ⟨hP1, hD1, hW.2.2.1, gSt_S hW.2.2.2.1 hS hS1 hf.2.2.2.2.2.1, Nat.le_trans hf.2.2.2.2.2.1 hS1.1⟩ hS1 hlv
theorem r_objI {a idx : Nat} (hw : Cond.methodLink own idx Lib.objectInit ∈ gG ∧ Cond.instanceMethod Lib.objectInit ∈ gG ∧ Cond.code Lib.objectInit ⟨#[0xb1]⟩ 1 none ∈ gG) (hR : 1 ≤ (gRm Y).frames ∧ 20 ≤ (gRm Y).locals) (hcat : (st.map fun v => v.category).sum ≤ 8) (hd : decode cc pc = .ok (.invokespecial idx, 3)) (k : AW Y cc own (pc + 3) ls st σ) : AW Y cc own pc ls (.ref a :: st) σ := by
  obtain ⟨G, u, nL, p, l, e, R, s, m, args, below, meth, c, cells, slots, Q⟩ := Y
  intro hf H locs la hW hS hl
  have hts := hf.2.2.2.2.1
  refine W.objInit hf.1 hf.2.1 hf.2.2.2.1 (hts _ hw.1) (hts _ hw.2.1) (hts _ hw.2.2) rfl (hl.1.trans hf.2.2.1.symm) rfl hd hR.1 ?_ (k hf H locs la hW hS hl)
  rw [gCat]
  have : 20 ≤ R.locals := hR.2
  show 2 * 0 + _ + 12 ≤ R.locals
  omega
end GMK
def gQR (G : gX) (Rel : gU → gM → Prop) : Array Value → State → Outcome → State → Prop := fun _ st oc t => oc = .returned none ∧ (∃ (u1 : gU) (σ1 : gM), Rel u1 σ1 ∧ gWd G u1 σ1 t t.heap) ∧ va_F (gA G) st t
def gMetC (l : Launch) (G : gX) (u : gU) (Rel : gU → gM → Prop) (y : MethodName) (cd : Cond) (rm : Room) (as : List Value) (σ : gM) (mc ms : Nat) : Prop := Met l y (cd :: gG) rm (va_Pc (as.map (gV G)) (fun U => gWd G u σ U U.heap ∧ U.heap.size = G.2.2.2 + u.1 ∧ gAO U)) (gQR G Rel) mc ms (gA G)
def gEndC (Y : gY) (Rel : gU → gM → Prop) (mc ms : Nat) : Prop := match Y with
  | (G, _, _, _, _, _, _, s, _, args, below, meth, _, cells, slots, Q) => meth.sig.returnType = none ∧ meth.locks = false ∧ Q = MQ below (gQR G Rel) args s mc ms (gA G) ∧ cells ≤ mc ∧ slots ≤ ms
theorem gMetC_of {l : Launch} {G : gX} {u : gU} {Rel : gU → gM → Prop} {y : MethodName} {rm : Room} {as : List Value} {σ : gM} {mc ms : Nat} {cc : ByteArray} {maxL k : Nat} {own : String} (hpl : gPl G) (h8 : u.1 ≤ 1670) (hy : plainName y.cls = true) (hini : y.name = "<init>") (hown : y.cls = own) (hlen : (lg_sl (as.map (gV G))).length ≤ maxL) (ls : List (Option Value)) (hls : gArgs as ++ List.replicate k none = ls)
    (body : ∀ Y : gY, Y.1 = G → Y.2.1 = u → gNL Y = maxL → gLn Y = l → gRm Y = rm → gCs Y = (0, 0) → gHz Y u.1 → gIni Y → gAOy Y → gEndC Y Rel mc ms → AW Y cc own 0 ls [] σ) : gMetC l G u Rel y (.code y cc maxL none) rm as σ mc ms := by
  refine Met.ofW (cc := cc) (maxL := maxL) (ret := none) hy rfl ?_
  intro p e s m args below meth c s₁ B hml hv
  obtain ⟨rfl, hW, hsz, hao⟩ := hv
  have hts := atoms_spec (ws := Cond.code y cc maxL none :: gG) B.pre
  have hown' : s.vm.findClass own = some m.cls := by rw [← hown]; exact findClass_of_methodNamed B.named
  have hname : meth.name = "<init>" := (name_of_methodNamed B.named B.method).1.trans hini
  have hl := lv_entry (as.map (gV G)) (n := maxL) hlen
  rw [lg_entry_eq]
  generalize (lg_sl (as.map (gV G)) ++ List.replicate (maxL - (lg_sl (as.map (gV G))).length) Slot.unset).toArray = la at hl ⊢
  have hl2 : lv_has la maxL (gPr G 0 ls) := by rw [← hls, gPr_args]; exact hl
  exact body (G, u, maxL, p, l, e, rm, s, m, (as.map (gV G)).toArray, below, meth, c, 0, 0, MQ below (gQR G Rel) (as.map (gV G)).toArray s mc ms (gA G)) rfl rfl rfl rfl rfl rfl ⟨hpl, hsz, rfl, h8⟩ hname hao ⟨B.returns, B.notSynchronized, rfl, Nat.zero_le _, Nat.zero_le _⟩ ⟨B.exec, B.bytes, hml, hown', fun w hw => hts w (List.mem_cons_of_mem _ hw), hW.2.2.2.2, Nat.zero_le _, Nat.zero_le _⟩ s.heap [] la hW va_S.rf hl2
theorem gEndC_s {Y : gY} {u : gU} {Rel : gU → gM → Prop} {mc ms a b : Nat} (h : gEndC Y Rel mc ms) (ha : a ≤ mc) (hb : b ≤ ms) : gEndC (gYs Y u a b) Rel mc ms := by
  obtain ⟨G, u0, nL, p, l, e, R, s, m, args, below, meth, c, cells, slots, Q⟩ := Y
  exact ⟨h.1, h.2.1, h.2.2.1, ha, hb⟩
theorem gBlindC {G : gX} {u : gU} {σ : gM} {av : List Value} {z : Nat} : FrameBlind (va_Pc av (fun U => gWd G u σ U U.heap ∧ U.heap.size = z ∧ gAO U)) := by
  intro a U g mk h
  exact ⟨h.1, gWd_same (s := U) (U := U.calling g mk a) rfl h.2.1, h.2.2.1, h.2.2.2⟩
section GMC
variable {Y : gY} {cc : ByteArray} {own : String} {pc : Nat} {ls : List (Option Value)} {st : List Value} {σ σ1 : gM}
theorem r_vretC {Rel : gU → gM → Prop} {mc ms : Nat} (hd : decode cc pc = .ok (.return_, 1)) (he : gEndC Y Rel mc ms) (hrel : Rel Y.2.1 σ) : AW Y cc own pc ls [] σ := by
  obtain ⟨G, u, nL, p, l, e, R, s, m, args, below, meth, c, cells, slots, Q⟩ := Y
  intro hf H locs la hW hS hl
  obtain ⟨h1, h2, rfl, h5, h6⟩ := he
  refine W.widen (k := mc) (n := ms) h5 h6 ?_
  exact W.vret hf.1 hf.2.1 h1 (fun t ht hw => ⟨rfl, ⟨u, σ, hrel, by rw [ht]; exact gWd_warm hw hW⟩, hS.F ht⟩) hS.2.2 hd
/-- the world by another table of references that is the same where there are references -/
theorem gWd_tau {G : gX} {u u' : gU} {s : State} {H : Heap} (h1 : u'.1 = u.1) (h2 : u'.2.2 = u.2.2) (h : ∀ o ∈ gObs.take u.1, ∀ x, o.1 ≤ x → x < o.1 + gSz o → (o.2.1 < 6 → gRef o.2.1 (x - o.1) = true) → (o.2.1 < 6 ∨ (9 ≤ o.2.1 ∧ o.2.1 < 11)) → u'.2.1 x = u.2.1 x) (hW : gWd G u σ s H) : gWd G u' σ s H := by
  have e : gWs G u σ = gWs G u' σ := by
    unfold gWs
    rw [h1]
    refine List.map_congr_left (fun o ho => ?_)
    have hq := h o ho
    congr 1
    unfold gCell
    unfold gSz at hq
    split
    · rename_i h6
      rw [if_pos h6] at hq
      congr 2
      refine List.map_congr_left (fun j hj => ?_)
      have hj2 := List.mem_range.mp hj
      unfold gFld
      split
      · rename_i hr
        rw [hq (o.1 + j) (by omega) (by omega) (fun _ => by rw [show o.1 + j - o.1 = j by omega]; exact hr) (Or.inl h6)]
      · rfl
    · rename_i h6
      rw [if_neg h6] at hq
      split
      · rfl
      · rename_i h9
        split
        · rename_i h11
          congr 7
          funext j
          split
          · rw [hq (o.1 + j) (by omega) (by omega) (fun q => absurd q h6) (Or.inr ⟨by omega, h11⟩)]
          · rfl
        · rw [h2]
  obtain ⟨a, b, c⟩ := hW
  rw [e] at a b
  exact ⟨a, b, c⟩
theorem r_tau {u' : gU} (h1 : u'.1 = Y.2.1.1) (h2 : u'.2.2 = Y.2.1.2.2) (h : ∀ o ∈ gObs.take Y.2.1.1, ∀ x, o.1 ≤ x → x < o.1 + gSz o → (o.2.1 < 6 → gRef o.2.1 (x - o.1) = true) → (o.2.1 < 6 ∨ (9 ≤ o.2.1 ∧ o.2.1 < 11)) → u'.2.1 x = Y.2.1.2.1 x) (k : AW (gYs Y u' (gCs Y).1 (gCs Y).2) cc own pc ls st σ) : AW Y cc own pc ls st σ := by
  obtain ⟨G, u, nL, p, l, e, R, s, m, args, below, meth, c, cells, slots, Q⟩ := Y
  intro hf H locs la hW hS hl
  exact k hf H locs la (gWd_tau h1 h2 h hW) hS hl
variable {y : MethodName} {bytes : ByteArray} {maxL idx : Nat} {rm : Room}
theorem r_callI {b n0 mc ms : Nat} {Rel : gU → gM → Prop} (hM : gMetC (gLn Y) Y.1 Y.2.1 Rel y (.code y bytes maxL none) rm [.ref b] σ mc ms) (hrm : rm.cells = mc ∧ rm.slots = ms) (hcd : Cond.code y bytes maxL none ∈ gG) (hw : Cond.methodLink own idx y ∈ gG ∧ Cond.instanceMethod y ∈ gG ∧ Cond.initialized y.cls ∈ gG) (hnm : gNm y 0) (hini : y.name = "<init>") (hR : rm.frames + 1 ≤ (gRm Y).frames ∧ 8 + (maxL + 11) + rm.locals ≤ (gRm Y).locals) (hcat : (st.map fun v => v.category).sum ≤ 8) (hz : gHz Y n0) (hao : gAOy Y) (hd : decode cc pc = .ok (.invokespecial idx, 3)) (hroom : (gCs Y).1 + mc ≤ (gRm Y).cells ∧ (gCs Y).2 + ms ≤ (gRm Y).slots)
    (k : ∀ (u1 : gU) (σ1 : gM), Rel u1 σ1 → AW (gYs Y u1 ((gCs Y).1 + mc) ((gCs Y).2 + ms)) cc own (pc + 3) ls st σ1) : AW Y cc own pc ls (.ref b :: st) σ := by
  obtain ⟨G, u, nL, p, l, e, R, s, m, args, below, meth, c, cells, slots, Q⟩ := Y
  intro hf H locs la hW hS hl
  have hts := hf.2.2.2.2.1
  obtain ⟨hpl, hsz, hcn, h8⟩ := hz
  intro T hT X
  have hHz : H.size = G.2.2.2 + u.1 := by
    have h1 := gSizeUp X
    have h2 := gSizeLo hpl h8 hW
    rw [hT] at h1
    have h3 : n0 + cells = u.1 := hcn
    omega
  obtain ⟨v, st₀, t, T', L, h0, X', hL, e1, e2, ⟨hv, ⟨u1, σ1, hrel, hw2⟩, hF⟩, stp⟩ := va_runI (H := H) (locs := locs) (cells := cells) (slots := slots) (e := e) (below := below) (meth := meth) (As := []) (b := G.2.2.1 b) (rest := st.map (gV G)) (n := 0) (Ts := gG) (g := F0 m pc la ((.ref b :: st).map (gV G))) ⟨hf.1, hf.2.1, hf.2.2.1, hf.2.2.2.1, hts⟩ hM (cwI 0 hts (gG_good hcd) rfl hrm.1 hrm.2 (hts _ hw.2.2) (hts _ hw.1) (hts _ hw.2.1) hini hnm hR) ⟨gBlindC, fun U hU hw1 => ⟨rfl, by
    show gWd G u σ U U.heap
    rw [hU]
    exact gWd_warm hw1 hW, by rw [hU]; exact hHz, ⟨va_AO.moved hw1.alike hao.1, va_AO.moved hw1.alike hao.2⟩⟩⟩ rfl rfl hl.1 rfl (by
    rw [gCat]
    show 2 * 0 + _ ≤ 8
    omega) hd hroom T hT X
  cases hv
  obtain ⟨k1, k2, k3⟩ := vx_keep h0 e1 hS (fun q _ h => h) (fun q h => h) hL hF
  have hf1 : gFx (gYs (G, u, nL, p, l, e, R, s, m, args, below, meth, c, cells, slots, Q) u1 (cells + mc) (slots + ms)) cc own := ⟨hf.1, hf.2.1, hf.2.2.1, hf.2.2.2.1, hf.2.2.2.2.1, hf.2.2.2.2.2.1, hroom.1, hroom.2⟩
  obtain ⟨t2, a1, b1⟩ := k u1 σ1 hrel hf1 T'.heap (locs ++ L) la ⟨by rw [e1]; exact hw2.1, hw2.2.1, hW.2.2.1, gSt_S hW.2.2.2.1 hS k3 hf.2.2.2.2.2.1, Nat.le_trans hf.2.2.2.2.2.1 k3.1⟩ k3 hl T' rfl X'
  exact ⟨t2, stp t2 a1, b1⟩
theorem r_callIN {b n0 mc ms : Nat} {host : String} {Rel : gU → gM → Prop} (hM : gMetC (gLn Y) Y.1 Y.2.1 Rel y (.code y bytes maxL none) rm [.ref b] σ mc ms) (hrm : rm.cells = mc ∧ rm.slots = ms) (hcd : Cond.code y bytes maxL none ∈ gG) (hw : Cond.methodLinkNest own idx y host ∈ gN ∧ Cond.instanceMethod y ∈ gG ∧ Cond.initialized y.cls ∈ gG) (hnm : gNm y 0) (hini : y.name = "<init>") (hR : rm.frames + 1 ≤ (gRm Y).frames ∧ 8 + (maxL + 11) + rm.locals ≤ (gRm Y).locals) (hcat : (st.map fun v => v.category).sum ≤ 8) (hz : gHz Y n0) (hao : gAOy Y) (hd : decode cc pc = .ok (.invokespecial idx, 3)) (hroom : (gCs Y).1 + mc ≤ (gRm Y).cells ∧ (gCs Y).2 + ms ≤ (gRm Y).slots)
    (k : ∀ (u1 : gU) (σ1 : gM), Rel u1 σ1 → AW (gYs Y u1 ((gCs Y).1 + mc) ((gCs Y).2 + ms)) cc own (pc + 3) ls st σ1) : AW Y cc own pc ls (.ref b :: st) σ := by
  obtain ⟨G, u, nL, p, l, e, R, s, m, args, below, meth, c, cells, slots, Q⟩ := Y
  intro hf H locs la hW hS hl
  have hts := hf.2.2.2.2.1
  obtain ⟨hpl, hsz, hcn, h8⟩ := hz
  intro T hT X
  have hHz : H.size = G.2.2.2 + u.1 := by
    have h1 := gSizeUp X
    have h2 := gSizeLo hpl h8 hW
    rw [hT] at h1
    have h3 : n0 + cells = u.1 := hcn
    omega
  obtain ⟨v, st₀, t, T', L, h0, X', hL, e1, e2, ⟨hv, ⟨u1, σ1, hrel, hw2⟩, hF⟩, stp⟩ := va_runIN (H := H) (locs := locs) (cells := cells) (slots := slots) (e := e) (below := below) (meth := meth) (As := []) (b := G.2.2.1 b) (rest := st.map (gV G)) (n := 0) (Ts := gG) (g := F0 m pc la ((.ref b :: st).map (gV G))) ⟨hf.1, hf.2.1, hf.2.2.1, hf.2.2.2.1, hts⟩ hM ⟨va_cnB 0 hts (gG_good hcd) rfl hrm.1 hrm.2 (hW.2.2.1.2.1 _ hw.1) (hts _ hw.2.2) hnm hR, hini, hts _ hw.2.1⟩ ⟨gBlindC, fun U hU hw1 => ⟨rfl, by
    show gWd G u σ U U.heap
    rw [hU]
    exact gWd_warm hw1 hW, by rw [hU]; exact hHz, ⟨va_AO.moved hw1.alike hao.1, va_AO.moved hw1.alike hao.2⟩⟩⟩ rfl rfl hl.1 rfl (by
    rw [gCat]
    show 2 * 0 + _ ≤ 8
    omega) hd hroom T hT X
  cases hv
  obtain ⟨k1, k2, k3⟩ := vx_keep h0 e1 hS (fun q _ h => h) (fun q h => h) hL hF
  have hf1 : gFx (gYs (G, u, nL, p, l, e, R, s, m, args, below, meth, c, cells, slots, Q) u1 (cells + mc) (slots + ms)) cc own := ⟨hf.1, hf.2.1, hf.2.2.1, hf.2.2.2.1, hf.2.2.2.2.1, hf.2.2.2.2.2.1, hroom.1, hroom.2⟩
  obtain ⟨t2, a1, b1⟩ := k u1 σ1 hrel hf1 T'.heap (locs ++ L) la ⟨by rw [e1]; exact hw2.1, hw2.2.1, hW.2.2.1, gSt_S hW.2.2.2.1 hS k3 hf.2.2.2.2.2.1, Nat.le_trans hf.2.2.2.2.2.1 k3.1⟩ k3 hl T' rfl X'
  exact ⟨t2, stp t2 a1, b1⟩
end GMC
