/-! rows that read and write the flat memory -/
def gChain : List (Nat × Nat × Nat) → Bool
  | a :: b :: t => decide (a.1 + gSz a = b.1) && gChain (b :: t)
  | _ => true
theorem gChain_lt : ∀ (t : List (Nat × Nat × Nat)) (a : Nat × Nat × Nat), gChain (a :: t) = true → ∀ (j : Nat) (o : Nat × Nat × Nat), t[j]? = some o → a.1 + gSz a ≤ o.1
  | [], a, _, j, o, h => by simp at h
  | b :: t, a, hc, 0, o, h => by
    simp only [gChain, Bool.and_eq_true, decide_eq_true_eq] at hc
    simp at h
    subst h
    omega
  | b :: t, a, hc, j + 1, o, h => by
    simp only [gChain, Bool.and_eq_true, decide_eq_true_eq] at hc
    have h' : t[j]? = some o := by simpa using h
    have := gChain_lt t b hc.2 j o h'
    omega
theorem gChain_tail {a : Nat × Nat × Nat} {t : List (Nat × Nat × Nat)} (h : gChain (a :: t) = true) : gChain t = true := by
  cases t with
  | nil => rfl
  | cons b t =>
    simp only [gChain, Bool.and_eq_true] at h
    exact h.2
theorem gChain_ord : ∀ (t : List (Nat × Nat × Nat)), gChain t = true → ∀ (i j : Nat) (o o' : Nat × Nat × Nat), i < j → t[i]? = some o → t[j]? = some o' → o.1 + gSz o ≤ o'.1
  | [], _, i, j, o, o', _, h, _ => by simp at h
  | a :: t, hc, 0, j + 1, o, o', _, h, h' => by
    simp at h
    subst h
    exact gChain_lt t a hc j o' (by simpa using h')
  | a :: t, hc, i + 1, j + 1, o, o', hij, h, h' => gChain_ord t (gChain_tail hc) i j o o' (by omega) (by simpa using h) (by simpa using h')
theorem gObs_chain : gChain gObs = true := by decide +kernel
theorem gObs_len : gObs.length = 1670 := by decide +kernel
theorem gTake_get {n k : Nat} {o : Nat × Nat × Nat} (h : (gObs.take n)[k]? = some o) : gObs[k]? = some o := by
  rw [List.getElem?_take] at h
  split at h
  · exact h
  · cases h
theorem gObs_apart {n i k : Nat} {o o' : Nat × Nat × Nat} (h : (gObs.take n)[i]? = some o) (h' : (gObs.take n)[k]? = some o') (hik : i ≠ k) : o.1 + gSz o ≤ o'.1 ∨ o'.1 + gSz o' ≤ o.1 := by
  rcases Nat.lt_or_gt_of_ne hik with q | q
  · exact Or.inl (gChain_ord gObs gObs_chain i k o o' q (gTake_get h) (gTake_get h'))
  · exact Or.inr (gChain_ord gObs gObs_chain k i o' o q (gTake_get h') (gTake_get h))
theorem gCell_congr {G : gX} {u : gU} {σ σ' : gM} {o : Nat × Nat × Nat} (h : ∀ x, o.1 ≤ x → x < o.1 + gSz o → σ' x = σ x) : gCell G u σ' o = gCell G u σ o := by
  unfold gCell
  unfold gSz at h
  split
  · rename_i h6
    rw [if_pos h6] at h
    congr 2
    refine List.map_congr_left (fun j hj => ?_)
    unfold gFld
    rw [h (o.1 + j) (by omega) (by have := List.mem_range.mp hj; omega)]
  · rename_i h6
    rw [if_neg h6] at h
    split
    · congr 4
      funext j
      split
      · exact h _ (by omega) (by omega)
      · rfl
    · rfl
theorem gWs_get {G : gX} {u : gU} {a kd len : Nat} (h : gIn u a kd len) : ∃ k : Nat, (gObs.take u.1)[k]? = some (a, kd, len) ∧ ∀ σ : gM, (gWs G u σ)[k]? = some ((G.2.2.1 a, gCell G u σ (a, kd, len)) : Nat × va_E) := by
  obtain ⟨k, hk⟩ := List.getElem?_of_mem h
  refine ⟨k, hk, fun σ => ?_⟩
  unfold gWs
  rw [List.getElem?_map, hk]
  rfl
theorem gWs_set {G : gX} {u : gU} {σ σ' : gM} {k a kd len : Nat} (hk : (gObs.take u.1)[k]? = some (a, kd, len)) (h : ∀ x, (x < a ∨ a + gSz (a, kd, len) ≤ x) → σ' x = σ x) : (gWs G u σ).set k (G.2.2.1 a, gCell G u σ' (a, kd, len)) = gWs G u σ' := by
  refine List.ext_getElem? (fun i => ?_)
  by_cases hik : i = k
  · subst hik
    have hl : i < (gWs G u σ).length := by
      unfold gWs
      rw [List.length_map]
      exact (List.getElem?_eq_some_iff.mp hk).1
    rw [List.getElem?_set_self hl]
    unfold gWs
    rw [List.getElem?_map, hk]
    rfl
  · rw [List.getElem?_set_ne (Ne.symm hik)]
    unfold gWs
    rw [List.getElem?_map, List.getElem?_map]
    cases ho : (gObs.take u.1)[i]? with
    | none => rfl
    | some o =>
      show some (G.2.2.1 o.1, gCell G u σ o) = some (G.2.2.1 o.1, gCell G u σ' o)
      rw [gCell_congr (σ := σ) (σ' := σ') (fun x h1 h2 => h x ?_)]
      rcases gObs_apart ho hk hik with q | q
      · exact Or.inl (by have := q; simp only at this; omega)
      · exact Or.inr (by have := q; simp only at this; omega)
theorem gFs_get {G : gX} {u : gU} {σ : gM} {kd a j N : Nat} (hj : j < N) : ((List.range N).map (gFld G u σ kd a))[j]? = some (gFld G u σ kd a j) := by
  rw [List.getElem?_map, List.getElem?_range hj]
  rfl
theorem gFs_set {G : gX} {u : gU} {σ : gM} {kd a j N : Nat} {x : Int32} (hj : j < N) (hr : gRef kd j = false) : ((List.range N).map (gFld G u σ kd a)).set j (.int x) = (List.range N).map (gFld G u (upd σ (a + j) x) kd a) := by
  refine List.ext_getElem? (fun i => ?_)
  by_cases hij : i = j
  · subst hij
    rw [List.getElem?_set_self (by simpa using hj), gFs_get hj]
    simp [gFld, hr, upd]
  · rw [List.getElem?_set_ne (Ne.symm hij), List.getElem?_map, List.getElem?_map]
    cases hi : (List.range N)[i]? with
    | none => rfl
    | some w =>
      have hw : w = i := by
        rw [List.getElem?_range] at hi
        · exact (Option.some.inj hi).symm
        · have := (List.getElem?_eq_some_iff.mp hi).1
          simpa using this
      subst hw
      show some _ = some _
      congr 1
      simp [gFld, upd, hij]
theorem gCell_obj {G : gX} {u : gU} {σ : gM} {a kd : Nat} (h : kd < 6) : gCell G u σ (a, kd, 0) = .inr (kd, (List.range (gNf kd)).map (gFld G u σ kd a)) := by
  unfold gCell
  rw [if_pos h]
theorem gCell_arr {G : gX} {u : gU} {σ : gM} {a kd n : Nat} (h : 6 ≤ kd) (h9 : kd < 9) : gCell G u σ (a, kd, n) = .inl (G.2.1 kd, n, .inl (fun j => if j < n then σ (a + j) else 0)) := by
  unfold gCell
  rw [if_neg (show ¬ kd < 6 by omega), if_pos h9]
theorem gCell_rar {G : gX} {u : gU} {σ : gM} {a kd n : Nat} (h : 9 ≤ kd) (h9 : kd < 11) : gCell G u σ (a, kd, n) = .inl (G.2.1 kd, n, .inr (.inr (.inr (.inr (fun j => if j < n then gRn G (u.2.1 (a + j)) else none))))) := by
  unfold gCell
  rw [if_neg (show ¬ kd < 6 by omega), if_neg (show ¬ kd < 9 by omega), if_pos h9]
theorem gTy_get {G : gX} {kd : Nat} (h : 6 ≤ kd) (h9 : kd < 11) : (gTys G)[kd - 6]? = some (G.2.1 kd, gTi kd) := by
  rcases (show kd = 6 ∨ kd = 7 ∨ kd = 8 ∨ kd = 9 ∨ kd = 10 by omega) with q | q | q | q | q <;> subst q <;> rfl
theorem gScG_kept {G : gX} {U : State} {H H1 : Heap} (h : gScG G U H) (hq : ∀ a : Nat, a < H.size → ¬ gA G a → H1[a]? = H[a]?) : gScG G U H1 := by
  have h1 : ¬ gA G (G.2.2.1 30000) := Nat.not_le.mpr h.2.1
  have h2 := hq _ h.2.2 h1
  refine ⟨va_X.kept h.1 h2, h.2.1, ?_⟩
  rw [Array.getElem?_eq_getElem h.2.2] at h2
  exact (Array.getElem?_eq_some_iff.mp h2).1
theorem gSt_kept {G : gX} {U : State} {H H1 : Heap} (h : gSt G U H) (hq : ∀ a : Nat, a < H.size → ¬ gA G a → H1[a]? = H[a]?) : gSt G U H1 := ⟨h.1.kept hq, ⟨h.2.1.1.kept hq, h.2.1.2.kept hq⟩, ⟨h.2.2.1.1.kept hq, h.2.2.1.2.kept hq⟩, ⟨h.2.2.2.1.1.kept hq, h.2.2.2.1.2.kept hq⟩, h.2.2.2.2.1.kept hq, h.2.2.2.2.2.1.kept hq, h.2.2.2.2.2.2.1.imp (fun q => q.kept hq) (fun q => q.kept hq), h.2.2.2.2.2.2.2.1.kept hq, h.2.2.2.2.2.2.2.2.1.kept hq, gScG_kept h.2.2.2.2.2.2.2.2.2 hq⟩
theorem gSt_moved {G : gX} {u U : State} {H : Heap} (hvm : u.vm.Alike U.vm) (h : gSt G u H) : gSt G U H := ⟨va_En.moved hvm h.1, ⟨va_Z.moved hvm h.2.1.1, va_T.moved hvm h.2.1.2⟩, ⟨va_Z.moved hvm h.2.2.1.1, va_T.moved hvm h.2.2.1.2⟩, ⟨va_Z.moved hvm h.2.2.2.1.1, va_T.moved hvm h.2.2.2.1.2⟩, vk_S.moved hvm h.2.2.2.2.1, va_Z.moved hvm h.2.2.2.2.2.1, h.2.2.2.2.2.2.1.imp (va_Z.moved hvm) (va_Z.moved hvm), vx_Zq.moved hvm h.2.2.2.2.2.2.2.1, vx_Zq.moved hvm h.2.2.2.2.2.2.2.2.1, ⟨va_X.moved hvm h.2.2.2.2.2.2.2.2.2.1, h.2.2.2.2.2.2.2.2.2.2⟩⟩
theorem gSt_S {G : gX} {U : State} {H0 H H1 : Heap} {l0 l1 : List Loc} (h : gSt G U H) (hS : va_S (gA G) H0 H l0) (hS1 : va_S (gA G) H0 H1 l1) (hz : G.2.2.2 ≤ H0.size) : gSt G U H1 := gSt_kept h (fun a ha hn => by
  have hlt : a < H0.size := by
    have h1 : ¬ G.2.2.2 ≤ a := hn
    omega
  rw [hS1.2.1 a hlt hn, hS.2.1 a hlt hn])
theorem gIn_obj {G : gX} {u : gU} {σ : gM} {a kd : Nat} (h6 : kd < 6) (h : gIn u a kd 0) : ∃ k : Nat, (gObs.take u.1)[k]? = some (a, kd, 0) ∧ (gWs G u σ)[k]? = some ((G.2.2.1 a, .inr (kd, (List.range (gNf kd)).map (gFld G u σ kd a))) : Nat × va_E) := by
  obtain ⟨k, h1, h2⟩ := gWs_get (G := G) h
  exact ⟨k, h1, by rw [h2 σ, gCell_obj h6]⟩
theorem gIn_arr {G : gX} {u : gU} {σ : gM} {a kd n : Nat} (h6 : 6 ≤ kd) (h9 : kd < 9) (h : gIn u a kd n) : ∃ k : Nat, (gObs.take u.1)[k]? = some (a, kd, n) ∧ (gWs G u σ)[k]? = some ((G.2.2.1 a, .inl (G.2.1 kd, n, .inl (fun j => if j < n then σ (a + j) else 0))) : Nat × va_E) := by
  obtain ⟨k, h1, h2⟩ := gWs_get (G := G) h
  exact ⟨k, h1, by rw [h2 σ, gCell_arr h6 h9]⟩
theorem gIn_rar {G : gX} {u : gU} {σ : gM} {a kd n : Nat} (h6 : 9 ≤ kd) (h9 : kd < 11) (h : gIn u a kd n) : ∃ k : Nat, (gObs.take u.1)[k]? = some (a, kd, n) ∧ (gWs G u σ)[k]? = some ((G.2.2.1 a, .inl (G.2.1 kd, n, .inr (.inr (.inr (.inr (fun j => if j < n then gRn G (u.2.1 (a + j)) else none)))))) : Nat × va_E) := by
  obtain ⟨k, h1, h2⟩ := gWs_get (G := G) h
  exact ⟨k, h1, by rw [h2 σ, gCell_rar h6 h9]⟩
theorem gArr_set {a n : Nat} {σ : gM} {i : Int32} {x : Int32} (hi : i.toNatClampNeg < n) : upd (fun j => if j < n then σ (a + j) else 0) i.toNatClampNeg x = (fun j => if j < n then upd σ (a + i.toNatClampNeg) x (a + j) else 0) := by
  funext j
  by_cases hj : j = i.toNatClampNeg
  · subst hj
    simp [upd, hi]
  · have : ¬ a + j = a + i.toNatClampNeg := by omega
    simp [upd, hj]
section GR
variable {Y : gY} {cc : ByteArray} {own : String} {pc : Nat} {ls : List (Option Value)} {st : List Value} {σ : gM} {β : Type} {o : β}
theorem r_getI {C : String} {T : u_T} {N kd j idx a : Nat} {E : Int32 → Option β} (hc : vwCl[kd]? = some (C, T, N)) (h6 : kd < 6) (hN : gNf kd = N) (hj : j < N) (hr : gRef kd j = false) (hin : ∀ w ∈ u_ws C T N, w ∈ gG) (hl : Cond.fieldLink own idx (T j).1 (T j).2.1 (T j).2.2.1 ∈ gG) (hd : decode cc pc = .ok (.getfield idx, 3)) (ha : gIn Y.2.1 a kd 0) (h : gLt (σ (a + j)) E = some o)
    (k : ∀ x, E x = some o → AW Y cc own (pc + 3) ls (.int x :: st) σ) : AW Y cc own pc ls (.ref a :: st) σ := by
  obtain ⟨G, u, nL, p, l, e, R, s, m, args, below, meth, c, cells, slots, Q⟩ := Y
  intro hf H locs la hW hS hl
  obtain ⟨q0, -, hq⟩ := gIn_obj (G := G) (σ := σ) h6 ha
  subst hN
  refine va_get hf.1 hf.2.1 hf.2.2.2.2.1 hin hf.2.2.2.1 hW.2.2.1.1 hW.1 q0 hq hc j hj (hf.2.2.2.2.1 _ (by assumption)) (fun _ h9 => h9) (v := .int (σ (a + j))) ?_ hd (k _ h hf H locs la hW hS hl)
  rw [gFs_get hj]
  simp [gFld, hr]
theorem r_getIN {C host : String} {T : u_T} {N kd j idx a : Nat} {E : Int32 → Option β} (hc : vwCl[kd]? = some (C, T, N)) (h6 : kd < 6) (hN : gNf kd = N) (hj : j < N) (hr : gRef kd j = false) (hin : ∀ w ∈ u_ws C T N, w ∈ gG) (hl : Cond.fieldLinkNest own idx (T j).1 (T j).2.1 (T j).2.2.1 host ∈ gN) (hd : decode cc pc = .ok (.getfield idx, 3)) (ha : gIn Y.2.1 a kd 0) (h : gLt (σ (a + j)) E = some o)
    (k : ∀ x, E x = some o → AW Y cc own (pc + 3) ls (.int x :: st) σ) : AW Y cc own pc ls (.ref a :: st) σ := by
  obtain ⟨G, u, nL, p, l, e, R, s, m, args, below, meth, c, cells, slots, Q⟩ := Y
  intro hf H locs la hW hS hl
  obtain ⟨q0, -, hq⟩ := gIn_obj (G := G) (σ := σ) h6 ha
  subst hN
  refine va_getN hf.1 hf.2.1 hf.2.2.2.2.1 hin hf.2.2.2.1 hW.2.2.1.1 hW.1 q0 hq hc j hj (va_Nw.use rfl (hW.2.2.1.2.1 _ (by assumption))) (fun _ h9 => h9) (v := .int (σ (a + j))) ?_ hd (k _ h hf H locs la hW hS hl)
  rw [gFs_get hj]
  simp [gFld, hr]
theorem r_getR {C : String} {T : u_T} {N kd j idx a b : Nat} (hc : vwCl[kd]? = some (C, T, N)) (h6 : kd < 6) (hN : gNf kd = N) (hj : j < N) (hr : gRef kd j = true) (hin : ∀ w ∈ u_ws C T N, w ∈ gG) (hl : Cond.fieldLink own idx (T j).1 (T j).2.1 (T j).2.2.1 ∈ gG) (hd : decode cc pc = .ok (.getfield idx, 3)) (ha : gIn Y.2.1 a kd 0) (hb : Y.2.1.2.1 (a + j) = b + 1)
    (k : AW Y cc own (pc + 3) ls (.ref b :: st) σ) : AW Y cc own pc ls (.ref a :: st) σ := by
  obtain ⟨G, u, nL, p, l, e, R, s, m, args, below, meth, c, cells, slots, Q⟩ := Y
  intro hf H locs la hW hS hl
  obtain ⟨q0, -, hq⟩ := gIn_obj (G := G) (σ := σ) h6 ha
  subst hN
  refine va_get hf.1 hf.2.1 hf.2.2.2.2.1 hin hf.2.2.2.1 hW.2.2.1.1 hW.1 q0 hq hc j hj (hf.2.2.2.2.1 _ (by assumption)) (fun _ h9 => h9) (v := .ref (G.2.2.1 b)) ?_ hd (k hf H locs la hW hS hl)
  rw [gFs_get hj]
  simp only [gFld, hr, if_true, gRn]
  rw [show u.2.1 (a + j) = b + 1 from hb]
  rfl
theorem r_getRN {C host : String} {T : u_T} {N kd j idx a b : Nat} (hc : vwCl[kd]? = some (C, T, N)) (h6 : kd < 6) (hN : gNf kd = N) (hj : j < N) (hr : gRef kd j = true) (hin : ∀ w ∈ u_ws C T N, w ∈ gG) (hl : Cond.fieldLinkNest own idx (T j).1 (T j).2.1 (T j).2.2.1 host ∈ gN) (hd : decode cc pc = .ok (.getfield idx, 3)) (ha : gIn Y.2.1 a kd 0) (hb : Y.2.1.2.1 (a + j) = b + 1)
    (k : AW Y cc own (pc + 3) ls (.ref b :: st) σ) : AW Y cc own pc ls (.ref a :: st) σ := by
  obtain ⟨G, u, nL, p, l, e, R, s, m, args, below, meth, c, cells, slots, Q⟩ := Y
  intro hf H locs la hW hS hl
  obtain ⟨q0, -, hq⟩ := gIn_obj (G := G) (σ := σ) h6 ha
  subst hN
  refine va_getN hf.1 hf.2.1 hf.2.2.2.2.1 hin hf.2.2.2.1 hW.2.2.1.1 hW.1 q0 hq hc j hj (va_Nw.use rfl (hW.2.2.1.2.1 _ (by assumption))) (fun _ h9 => h9) (v := .ref (G.2.2.1 b)) ?_ hd (k hf H locs la hW hS hl)
  rw [gFs_get hj]
  simp only [gFld, hr, if_true, gRn]
  rw [show u.2.1 (a + j) = b + 1 from hb]
  rfl
theorem r_putI {C : String} {T : u_T} {N kd j idx a : Nat} {x : Int32} {E : gM → Option β} (ty0 : Nat → FieldType) (hty : ∀ k, k < N → parseFieldDescriptor (T k).2.2.1 = some (ty0 k)) (hnm : ∀ a, a < N → ∀ b, b < N → a ≠ b → (T a).2.1 ≠ (T b).2.1) (hc : vwCl[kd]? = some (C, T, N)) (h6 : kd < 6) (hN : gNf kd = N) (hj : j < N) (hr : gRef kd j = false) (hin : ∀ w ∈ u_ws C T N, w ∈ gG) (hl : Cond.fieldLink own idx (T j).1 (T j).2.1 (T j).2.2.1 ∈ gG) (hfin : (T j).2.2.2 = false) (hi : parseFieldDescriptor (T j).2.2.1 = some .int) (hd : decode cc pc = .ok (.putfield idx, 3)) (ha : gIn Y.2.1 a kd 0) (h : gLt (upd σ (a + j) x) E = some o)
    (k : ∀ σ1, E σ1 = some o → AW Y cc own (pc + 3) ls st σ1) : AW Y cc own pc ls (.int x :: .ref a :: st) σ := by
  obtain ⟨G, u, nL, p, l, e, R, s, m, args, below, meth, c, cells, slots, Q⟩ := Y
  intro hf H locs la hW hS hl
  obtain ⟨q0, hq0, hq⟩ := gIn_obj (G := G) (σ := σ) h6 ha
  subst hN
  refine va_put hf.1 hf.2.1 hf.2.2.2.2.1 hin ty0 hty hnm hf.2.2.2.1 hW.2.2.1.1 hW.1 hW.2.1 hS q0 hq hc j hj (hf.2.2.2.2.1 _ (by assumption)) (fun _ h9 => h9) hfin hi rfl rfl (by simpa using hj) hd (fun H1 locs1 hP1 hD1 hS1 => ?_)
  have e1 : (gWs G u σ).set q0 (G.2.2.1 a, .inr (kd, ((List.range (gNf kd)).map (gFld G u σ kd a)).set j (.int x))) = gWs G u (upd σ (a + j) x) := by
    rw [gFs_set hj hr, ← gCell_obj h6]
    refine gWs_set hq0 (fun y hy => ?_)
    have hs : gSz (a, kd, 0) = gNf kd := by unfold gSz; rw [if_pos h6]
    rw [hs] at hy
    simp only [upd]
    rw [if_neg (by omega)]
  have hP1 : va_P G.1 vwCl (gWs G u (upd σ (a + j) x)) H1 := by
    rw [← e1]
    exact hP1
  have hD1 : va_D (gA G) (gWs G u (upd σ (a + j) x)) := by
    rw [← e1]
    exact hD1
  exact k _ h hf H1 locs1 la ⟨hP1, hD1, hW.2.2.1, gSt_S hW.2.2.2.1 hS hS1 hf.2.2.2.2.2.1, Nat.le_trans hf.2.2.2.2.2.1 hS1.1⟩ hS1 hl
theorem r_iald {n a : Nat} {i : Int32} {E : Int32 → Option β} (hd : decode cc pc = .ok (.iaload, 1)) (ha : gIn Y.2.1 a 7 n) (h : gRd σ a n i E = some o) (k : ∀ x, E x = some o → AW Y cc own (pc + 1) ls (.int x :: st) σ) : AW Y cc own pc ls (.int i :: .ref a :: st) σ := by
  unfold gRd at h
  split at h
  · cases h
  rename_i hi
  obtain ⟨G, u, nL, p, l, e, R, s, m, args, below, meth, c, cells, slots, Q⟩ := Y
  intro hf H locs la hW hS hl
  obtain ⟨q0, -, hq⟩ := gIn_arr (G := G) (σ := σ) (by decide) (by decide) ha
  refine va_iald hf.1 hf.2.1 hW.2.2.1.1 hW.1 q0 1 hq rfl hi hd ?_
  rw [if_pos (Nat.not_le.mp fun q => hi (Or.inr q))]
  exact k _ h hf H locs la hW hS hl
theorem r_zald {n a : Nat} {i : Int32} {E : Int32 → Option β} (hd : decode cc pc = .ok (.baload, 1)) (ha : gIn Y.2.1 a 8 n) (h : gRd σ a n i E = some o) (k : ∀ x, E x = some o → AW Y cc own (pc + 1) ls (.int x :: st) σ) : AW Y cc own pc ls (.int i :: .ref a :: st) σ := by
  unfold gRd at h
  split at h
  · cases h
  rename_i hi
  obtain ⟨G, u, nL, p, l, e, R, s, m, args, below, meth, c, cells, slots, Q⟩ := Y
  intro hf H locs la hW hS hl
  obtain ⟨q0, -, hq⟩ := gIn_arr (G := G) (σ := σ) (by decide) (by decide) ha
  refine va_zald hf.1 hf.2.1 hW.2.2.1.1 hW.1 q0 2 hq rfl hi hd ?_
  rw [if_pos (Nat.not_le.mp fun q => hi (Or.inr q))]
  exact k _ h hf H locs la hW hS hl
theorem r_cald {n a : Nat} {i : Int32} {E : Int32 → Option β} (hd : decode cc pc = .ok (.caload, 1)) (ha : gIn Y.2.1 a 6 n) (h : gRd σ a n i E = some o) (k : ∀ x, E x = some o → AW Y cc own (pc + 1) ls (.int x :: st) σ) : AW Y cc own pc ls (.int i :: .ref a :: st) σ := by
  unfold gRd at h
  split at h
  · cases h
  rename_i hi
  obtain ⟨G, u, nL, p, l, e, R, s, m, args, below, meth, c, cells, slots, Q⟩ := Y
  intro hf H locs la hW hS hl
  obtain ⟨q0, -, hq⟩ := gIn_arr (G := G) (σ := σ) (by decide) (by decide) ha
  refine va_cald hf.1 hf.2.1 hW.2.2.1.1 hW.1 q0 0 hq rfl hi hd ?_
  rw [if_pos (Nat.not_le.mp fun q => hi (Or.inr q))]
  exact k _ h hf H locs la hW hS hl
theorem gArrW {G : gX} {u : gU} {a kd n q0 : Nat} {i x : Int32} (h6 : 6 ≤ kd) (h9 : kd < 9) (hq0 : (gObs.take u.1)[q0]? = some (a, kd, n)) (hi : i.toNatClampNeg < n) : (gWs G u σ).set q0 (G.2.2.1 a, .inl (G.2.1 kd, n, .inl (upd (fun j => if j < n then σ (a + j) else 0) i.toNatClampNeg x))) = gWs G u (upd σ (a + i.toNatClampNeg) x) := by
  rw [gArr_set hi, ← gCell_arr (G := G) (u := u) (σ := upd σ (a + i.toNatClampNeg) x) h6 h9]
  refine gWs_set hq0 (fun y hy => ?_)
  have hs : gSz (a, kd, n) = n := by unfold gSz; rw [if_neg (by simp only; omega)]
  rw [hs] at hy
  simp only [upd]
  rw [if_neg (by omega)]
theorem r_iast {n a : Nat} {i x : Int32} {E : gM → Option β} (hd : decode cc pc = .ok (.iastore, 1)) (ha : gIn Y.2.1 a 7 n) (h : gWr σ a n i x E = some o) (k : ∀ σ1, E σ1 = some o → AW Y cc own (pc + 1) ls st σ1) : AW Y cc own pc ls (.int x :: .int i :: .ref a :: st) σ := by
  unfold gWr at h
  split at h
  · cases h
  rename_i hi
  obtain ⟨G, u, nL, p, l, e, R, s, m, args, below, meth, c, cells, slots, Q⟩ := Y
  intro hf H locs la hW hS hl
  obtain ⟨q0, hq0, hq⟩ := gIn_arr (G := G) (σ := σ) (by decide) (by decide) ha
  refine va_iast hf.1 hf.2.1 hW.2.2.1.1 hW.1 hW.2.1 hS q0 1 hq rfl hi hd (fun H1 locs1 hP1 hD1 hS1 => ?_)
  rw [gArrW (by decide) (by decide) hq0 (Nat.not_le.mp fun q => hi (Or.inr q))] at hP1 hD1
  exact k _ h hf H1 locs1 la ⟨hP1, hD1, hW.2.2.1, gSt_S hW.2.2.2.1 hS hS1 hf.2.2.2.2.2.1, Nat.le_trans hf.2.2.2.2.2.1 hS1.1⟩ hS1 hl
theorem r_zast {n a : Nat} {i x : Int32} {E : gM → Option β} (hd : decode cc pc = .ok (.bastore, 1)) (ha : gIn Y.2.1 a 8 n) (h : gWr σ a n i (vp_nar .boolean x) E = some o) (k : ∀ σ1, E σ1 = some o → AW Y cc own (pc + 1) ls st σ1) : AW Y cc own pc ls (.int x :: .int i :: .ref a :: st) σ := by
  unfold gWr at h
  split at h
  · cases h
  rename_i hi
  obtain ⟨G, u, nL, p, l, e, R, s, m, args, below, meth, c, cells, slots, Q⟩ := Y
  intro hf H locs la hW hS hl
  obtain ⟨q0, hq0, hq⟩ := gIn_arr (G := G) (σ := σ) (by decide) (by decide) ha
  refine va_zast hf.1 hf.2.1 hW.2.2.1.1 hW.1 hW.2.1 hS q0 2 hq rfl hi hd (fun H1 locs1 hP1 hD1 hS1 => ?_)
  rw [gArrW (by decide) (by decide) hq0 (Nat.not_le.mp fun q => hi (Or.inr q))] at hP1 hD1
  exact k _ h hf H1 locs1 la ⟨hP1, hD1, hW.2.2.1, gSt_S hW.2.2.2.1 hS hS1 hf.2.2.2.2.2.1, Nat.le_trans hf.2.2.2.2.2.1 hS1.1⟩ hS1 hl
theorem r_cast {n a : Nat} {i x : Int32} {E : gM → Option β} (hd : decode cc pc = .ok (.castore, 1)) (ha : gIn Y.2.1 a 6 n) (h : gWr σ a n i (vp_nar .char x) E = some o) (k : ∀ σ1, E σ1 = some o → AW Y cc own (pc + 1) ls st σ1) : AW Y cc own pc ls (.int x :: .int i :: .ref a :: st) σ := by
  unfold gWr at h
  split at h
  · cases h
  rename_i hi
  obtain ⟨G, u, nL, p, l, e, R, s, m, args, below, meth, c, cells, slots, Q⟩ := Y
  intro hf H locs la hW hS hl
  obtain ⟨q0, hq0, hq⟩ := gIn_arr (G := G) (σ := σ) (by decide) (by decide) ha
  refine va_cast hf.1 hf.2.1 hW.2.2.1.1 hW.1 hW.2.1 hS q0 0 hq rfl hi hd (fun H1 locs1 hP1 hD1 hS1 => ?_)
  rw [gArrW (by decide) (by decide) hq0 (Nat.not_le.mp fun q => hi (Or.inr q))] at hP1 hD1
  exact k _ h hf H1 locs1 la ⟨hP1, hD1, hW.2.2.1, gSt_S hW.2.2.2.1 hS hS1 hf.2.2.2.2.2.1, Nat.le_trans hf.2.2.2.2.2.1 hS1.1⟩ hS1 hl
theorem r_aald {n a kd : Nat} {i : Int32} {C : String} {E : Nat → Option β} (h9 : 9 ≤ kd) (h11 : kd < 11) (hC : gTi kd = .object C) (f : Nat → Nat) (hd : decode cc pc = .ok (.aaload, 1)) (ha : gIn Y.2.1 a kd n) (hb : ∀ j, j < n → Y.2.1.2.1 (a + j) = f j + 1) (h : gEl n i E = some o) (k : ∀ j, j < n → E j = some o → AW Y cc own (pc + 1) ls (.ref (f j) :: st) σ) : AW Y cc own pc ls (.int i :: .ref a :: st) σ := by
  unfold gEl at h
  split at h
  · cases h
  rename_i hi
  have hn : i.toNatClampNeg < n := Nat.not_le.mp fun q => hi (Or.inr q)
  obtain ⟨G, u, nL, p, l, e, R, s, m, args, below, meth, c, cells, slots, Q⟩ := Y
  intro hf H locs la hW hS hl
  obtain ⟨q0, -, hq⟩ := gIn_rar (G := G) (σ := σ) h9 h11 ha
  refine va_aldq (C := C) hf.1 hf.2.1 hW.2.2.1.1 hW.1 q0 (kd - 6) hq (by rw [gTy_get (by omega) (by omega), hC]) hi hd ?_
  rw [if_pos hn]
  simp only [gRn]
  rw [show u.2.1 (a + i.toNatClampNeg) = f i.toNatClampNeg + 1 from hb _ hn]
  exact k _ hn h hf H locs la hW hS hl
end GR
