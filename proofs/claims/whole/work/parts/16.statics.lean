/-! statics, tables, texts, copies -/
theorem gSt_back {G : gX} {s : State} {H : Heap} {locs : List Loc} (h : gSt G s H) (hS : va_S (gA G) s.heap H locs) (hz : G.2.2.2 ≤ s.heap.size) : gSt G s s.heap := gSt_kept h (fun a ha hn => by
  have h1 : ¬ G.2.2.2 ≤ a := hn
  exact (hS.2.1 a (by omega) hn).symm)
def gTd {β : Type} (f : Nat → Int32) (i : Int32) (k : Int32 → Option β) : Option β := if i < 0 ∨ 5 ≤ i.toNatClampNeg then none else k (f i.toNatClampNeg)
def gEnumOk (a : Nat) : Prop := 20000 ≤ a ∧ a < 20004
theorem gEnum (z : Nat) (h : z < 4) : gEnumOk (20000 + z) := ⟨Nat.le_add_right _ _, by omega⟩
def gOkE {β : Type} (y : Nat) (k : Option β) : Option β := if 20000 ≤ y ∧ y < 20004 then k else none
theorem gOkE_some {β : Type} {y : Nat} {k : Option β} {o : β} (h : gOkE y k = some o) : gEnumOk y ∧ k = some o := by
  unfold gOkE at h
  split at h
  · rename_i hy
    exact ⟨hy, h⟩
  · cases h
def gCpM (σ : gM) (a b sp dp n : Nat) : gM := fun x => if b + dp ≤ x ∧ x < b + dp + n then σ (a + sp + (x - (b + dp))) else σ x
def gCp {β : Type} (σ : gM) (a na b nb : Nat) (sp dp n : Int32) (k : gM → Option β) : Option β := if sp < 0 ∨ dp < 0 ∨ n < 0 ∨ na < sp.toNatClampNeg + n.toNatClampNeg ∨ nb < dp.toNatClampNeg + n.toNatClampNeg then none else k (gCpM σ a b sp.toNatClampNeg dp.toNatClampNeg n.toNatClampNeg)
def gCpz {β : Type} (σ : gM) (a na b nb : Nat) (sp dp n : Int32) (k : gM → Option β) : Option β := if (List.range n.toNatClampNeg).all (fun i => fits .boolean (.int (σ (a + sp.toNatClampNeg + i)))) = true then gCp σ a na b nb sp dp n k else none
def gCpTM (f : Nat → Int32) (σ : gM) (b sp dp n : Nat) : gM := fun x => if b + dp ≤ x ∧ x < b + dp + n then f (sp + (x - (b + dp))) else σ x
def gCpT {β : Type} (f : Nat → Int32) (σ : gM) (b nb : Nat) (sp dp n : Int32) (k : gM → Option β) : Option β := if sp < 0 ∨ dp < 0 ∨ n < 0 ∨ 5 < sp.toNatClampNeg + n.toNatClampNeg ∨ nb < dp.toNatClampNeg + n.toNatClampNeg then none else k (gCpTM f σ b sp.toNatClampNeg dp.toNatClampNeg n.toNatClampNeg)
section GT
variable {Y : gY} {cc : ByteArray} {own : String} {pc : Nat} {ls : List (Option Value)} {st : List Value} {σ : gM} {β : Type} {o : β}
theorem r_gets {C n d : String} {idx : Nat} {v : Value} (hZ : ∀ U H, gSt Y.1 U H → va_Z C n d (gV Y.1 v) (gA Y.1) U H) (hl : Cond.fieldLink own idx C n d ∈ gG) (hd : decode cc pc = .ok (.getstatic idx, 3)) (k : AW Y cc own (pc + 3) ls (v :: st) σ) : AW Y cc own pc ls st σ := by
  obtain ⟨G, u, nL, p, l, e, R, s, m, args, below, meth, c, cells, slots, Q⟩ := Y
  intro hf H locs la hW hS hlv
  exact va_gets hf.1 hf.2.1 (hZ _ _ (gSt_back hW.2.2.2.1 hS hf.2.2.2.2.2.1)) hS hf.2.2.2.1 (hf.2.2.2.2.1 _ (by assumption)) (fun _ h9 => h9) hd (k hf H locs la hW hS hlv)
theorem r_getsN {C n d host : String} {idx : Nat} {v : Value} (hZ : ∀ U H, gSt Y.1 U H → va_Z C n d (gV Y.1 v) (gA Y.1) U H) (hl : Cond.fieldLinkNest own idx C n d host ∈ gN) (hd : decode cc pc = .ok (.getstatic idx, 3)) (k : AW Y cc own (pc + 3) ls (v :: st) σ) : AW Y cc own pc ls st σ := by
  obtain ⟨G, u, nL, p, l, e, R, s, m, args, below, meth, c, cells, slots, Q⟩ := Y
  intro hf H locs la hW hS hlv
  exact va_getsN hf.1 hf.2.1 (hZ _ _ (gSt_back hW.2.2.2.1 hS hf.2.2.2.2.2.1)) hS hf.2.2.2.1 (va_Nw.use rfl (hW.2.2.1.2.1 _ (by assumption))) (fun _ h9 => h9) hd (k hf H locs la hW hS hlv)
theorem r_tabi {f : Nat → Int32} {t : Nat} {i : Int32} {E : Int32 → Option β} (hT : ∀ U H, gSt Y.1 U H → va_T .int (Y.1.2.2.1 t) 5 (fun j => .int (f j)) (gA Y.1) U H) (hd : decode cc pc = .ok (.iaload, 1)) (h : gTd f i E = some o) (k : ∀ x, E x = some o → AW Y cc own (pc + 1) ls (.int x :: st) σ) : AW Y cc own pc ls (.int i :: .ref t :: st) σ := by
  unfold gTd at h
  split at h
  · cases h
  rename_i hi
  obtain ⟨G, u, nL, p, l, e, R, s, m, args, below, meth, c, cells, slots, Q⟩ := Y
  intro hf H locs la hW hS hlv
  exact va_ti hf.1 hf.2.1 (hT _ _ (gSt_back hW.2.2.2.1 hS hf.2.2.2.2.2.1)) hS hi rfl hd (k _ h hf H locs la hW hS hlv)
theorem r_gFirst {i : Int32} {E : Int32 → Option β} (hd : decode cc pc = .ok (.iaload, 1)) (h : gTd gFirst i E = some o) (k : ∀ x, E x = some o → AW Y cc own (pc + 1) ls (.int x :: st) σ) : AW Y cc own pc ls (.int i :: .ref 20010 :: st) σ := r_tabi (fun _ _ q => q.2.1.2) hd h k
theorem r_gLeast {i : Int32} {E : Int32 → Option β} (hd : decode cc pc = .ok (.iaload, 1)) (h : gTd gLeast i E = some o) (k : ∀ x, E x = some o → AW Y cc own (pc + 1) ls (.int x :: st) σ) : AW Y cc own pc ls (.int i :: .ref 20011 :: st) σ := r_tabi (fun _ _ q => q.2.2.1.2) hd h k
theorem r_gGreat {i : Int32} {E : Int32 → Option β} (hd : decode cc pc = .ok (.iaload, 1)) (h : gTd gGreat i E = some o) (k : ∀ x, E x = some o → AW Y cc own (pc + 1) ls (.int x :: st) σ) : AW Y cc own pc ls (.int i :: .ref 20012 :: st) σ := r_tabi (fun _ _ q => q.2.2.2.1.2) hd h k
theorem r_acmp_eq {a b : Nat} {off : Int} {tgt : Nat} {E1 E2 : Option β} (hd : decode cc pc = .ok (.if_acmp .eq off, 3)) (ht : (pc : Int) + off = (tgt : Int)) (ha : gEnumOk a) (hb : gEnumOk b) (h : (if a = b then E1 else E2) = some o) (kt : E1 = some o → AW Y cc own tgt ls st σ) (kf : E2 = some o → AW Y cc own (pc + 3) ls st σ) : AW Y cc own pc ls (.ref b :: .ref a :: st) σ := by
  obtain ⟨G, u, nL, p, l, e, R, s, m, args, below, meth, c, cells, slots, Q⟩ := Y
  intro hf H locs la hW hS hlv
  have hE := hW.2.2.2.1.1.2
  refine lv_acmp_eq (rx := some (G.2.2.1 a)) (ry := some (G.2.2.1 b)) hf.1 hf.2.1 hd ht (fun hc => ?_) (fun hc => ?_)
  · have hab : a = b := by
      have h1 := hE (a - 20000) (b - 20000) (by have := ha.1; have := ha.2; show a - 20000 < 4; omega) (by have := hb.1; have := hb.2; show b - 20000 < 4; omega) (by
        show G.2.2.1 (20000 + (a - 20000)) = G.2.2.1 (20000 + (b - 20000))
        rw [show 20000 + (a - 20000) = a by have := ha.1; omega, show 20000 + (b - 20000) = b by have := hb.1; omega]
        exact Option.some.inj hc)
      have := ha.1
      have := hb.1
      omega
    rw [if_pos hab] at h
    exact kt h hf H locs la hW hS hlv
  · rw [if_neg (fun q => hc (by rw [q]))] at h
    exact kf h hf H locs la hW hS hlv
theorem gCp_fn {σ : gM} {a na b nb sp dp n : Nat} (h4 : sp + n ≤ na) (h5 : dp + n ≤ nb) : va_cpy (fun j => if j < na then σ (a + j) else 0) (fun j => if j < nb then σ (b + j) else 0) sp dp n = (fun j => if j < nb then gCpM σ a b sp dp n (b + j) else 0) := by
  funext j
  unfold va_cpy gCpM
  dsimp only
  by_cases hj : dp ≤ j ∧ j < dp + n
  · rw [if_pos hj, if_pos (show sp + (j - dp) < na by omega), if_pos (show j < nb by omega), if_pos (show b + dp ≤ b + j ∧ b + j < b + dp + n by omega)]
    congr 1
    omega
  · rw [if_neg hj]
    split
    · rw [if_neg (by omega)]
    · rfl
theorem gCpW {G : gX} {u : gU} {σ σ' : gM} {b kd nb q1 dp n : Nat} (h6 : 6 ≤ kd) (h9 : kd < 9) (hq1 : (gObs.take u.1)[q1]? = some (b, kd, nb)) (h5 : dp + n ≤ nb) (hs : ∀ x, ¬ (b + dp ≤ x ∧ x < b + dp + n) → σ' x = σ x) : (gWs G u σ).set q1 (G.2.2.1 b, .inl (G.2.1 kd, nb, .inl (fun j => if j < nb then σ' (b + j) else 0))) = gWs G u σ' := by
  rw [← gCell_arr (G := G) (u := u) (σ := σ') h6 h9]
  refine gWs_set hq1 (fun y hy => ?_)
  have hz : gSz (b, kd, nb) = nb := by unfold gSz; rw [if_neg (by simp only; omega)]
  rw [hz] at hy
  exact hs y (by omega)
def gCpw (own : String) (i : Nat) : Prop := Cond.methodLink own i arraycopyName ∈ gG ∧ Cond.native arraycopyName ∈ gG ∧ Cond.static arraycopyName ∈ gG ∧ Cond.initialized "java/lang/System" ∈ gG
theorem r_cpg {a na b nb i kd : Nat} {ty : FieldType} {sp dp n : Int32} {E : gM → Option β} (h6 : 6 ≤ kd) (h9 : kd < 9) (hty : gTi kd = ty) (hprim : refKind ty = false) (hd : decode cc pc = .ok (.invokestatic i, 3)) (hw : gCpw own i) (hR : 1 ≤ (gRm Y).frames ∧ 26 ≤ (gRm Y).locals) (hc : (st.map fun v => v.category).sum ≤ 8) (ha : gIn Y.2.1 a kd na) (hb : gIn Y.2.1 b kd nb) (hfit : ∀ i, i < n.toNatClampNeg → fits ty (.int (σ (a + sp.toNatClampNeg + i))) = true) (h : gCp σ a na b nb sp dp n E = some o) (k : ∀ σ1, E σ1 = some o → AW Y cc own (pc + 3) ls st σ1) : AW Y cc own pc ls (.int n :: .int dp :: .ref b :: .int sp :: .ref a :: st) σ := by
  unfold gCp at h
  split at h
  · cases h
  rename_i hn
  have h1 : ¬ sp < 0 := fun q => hn (Or.inl q)
  have h2 : ¬ dp < 0 := fun q => hn (Or.inr (Or.inl q))
  have h3 : ¬ n < 0 := fun q => hn (Or.inr (Or.inr (Or.inl q)))
  have h4 : sp.toNatClampNeg + n.toNatClampNeg ≤ na := Nat.not_lt.mp fun q => hn (Or.inr (Or.inr (Or.inr (Or.inl q))))
  have h5 : dp.toNatClampNeg + n.toNatClampNeg ≤ nb := Nat.not_lt.mp fun q => hn (Or.inr (Or.inr (Or.inr (Or.inr q))))
  obtain ⟨G, u, nL, p, l, e, R, s, m, args, below, meth, c, cells, slots, Q⟩ := Y
  intro hf H locs la hW hS hlv
  have hts := hf.2.2.2.2.1
  obtain ⟨q0, -, hq0⟩ := gIn_arr (G := G) (σ := σ) h6 h9 ha
  obtain ⟨q1, hk1, hq1⟩ := gIn_arr (G := G) (σ := σ) h6 h9 hb
  have ht := gTy_get (G := G) (kd := kd) h6 (by omega)
  rw [hty] at ht
  refine va_copyi (ty := ty) hf.1 hf.2.1 (hf.2.2.1.trans hlv.1.symm) hf.2.2.2.1 (hts _ hw.1) (hts _ hw.2.1) (hts _ hw.2.2.1) (hts _ hw.2.2.2) hW.2.2.1.1 hW.1 hW.2.1 hS q0 q1 (kd - 6) (kd - 6) hq0 hq1 ht ht hprim h1 h2 h3 h4 h5 (fun i hi => ?_) hR.1 ?_ hd (fun H1 locs1 hP1 hD1 hS1 => ?_)
  · show fits ty (.int (if sp.toNatClampNeg + i < na then σ (a + (sp.toNatClampNeg + i)) else 0)) = true
    rw [if_pos (by omega), ← Nat.add_assoc]
    exact hfit i hi
  · rw [gCat]
    have q : nativeFrameWords "java/lang/System" "arraycopy" 5 = 7 := by decide +kernel
    have : 26 ≤ R.locals := hR.2
    omega
  · rw [gCp_fn h4 h5, gCpW (σ' := gCpM σ a b sp.toNatClampNeg dp.toNatClampNeg n.toNatClampNeg) h6 h9 hk1 h5 (fun x hx => by unfold gCpM; rw [if_neg hx])] at hP1 hD1
    exact k _ h hf H1 locs1 la ⟨hP1, hD1, hW.2.2.1, gSt_S hW.2.2.2.1 hS hS1 hf.2.2.2.2.2.1, Nat.le_trans hf.2.2.2.2.2.1 hS1.1⟩ hS1 hlv
theorem r_cpi {a na b nb i : Nat} {sp dp n : Int32} {E : gM → Option β} (hd : decode cc pc = .ok (.invokestatic i, 3)) (hw : gCpw own i) (hR : 1 ≤ (gRm Y).frames ∧ 26 ≤ (gRm Y).locals) (hc : (st.map fun v => v.category).sum ≤ 8) (ha : gIn Y.2.1 a 7 na) (hb : gIn Y.2.1 b 7 nb) (h : gCp σ a na b nb sp dp n E = some o) (k : ∀ σ1, E σ1 = some o → AW Y cc own (pc + 3) ls st σ1) : AW Y cc own pc ls (.int n :: .int dp :: .ref b :: .int sp :: .ref a :: st) σ :=
  r_cpg (kd := 7) (ty := .int) (by decide) (by decide) rfl rfl hd hw hR hc ha hb (fun _ _ => rfl) h k
theorem r_cpz {a na b nb i : Nat} {sp dp n : Int32} {E : gM → Option β} (hd : decode cc pc = .ok (.invokestatic i, 3)) (hw : gCpw own i) (hR : 1 ≤ (gRm Y).frames ∧ 26 ≤ (gRm Y).locals) (hc : (st.map fun v => v.category).sum ≤ 8) (ha : gIn Y.2.1 a 8 na) (hb : gIn Y.2.1 b 8 nb) (h : gCpz σ a na b nb sp dp n E = some o) (k : ∀ σ1, E σ1 = some o → AW Y cc own (pc + 3) ls st σ1) : AW Y cc own pc ls (.int n :: .int dp :: .ref b :: .int sp :: .ref a :: st) σ := by
  unfold gCpz at h
  split at h
  · rename_i hall
    refine r_cpg (kd := 8) (ty := .boolean) (by decide) (by decide) rfl rfl hd hw hR hc ha hb (fun j hj => ?_) h k
    exact List.all_eq_true.mp hall j (List.mem_range.mpr hj)
  · cases h
theorem gNn {z : Int32} (hz : ¬ z < 0) : z.toInt = (z.toNatClampNeg : Int) := by
  have h0 : (0 : Int) ≤ z.toInt := by simpa using Int32.le_iff_toInt_le.mp (Int32.not_lt.mp hz)
  show z.toInt = ((z.toInt.toNat : Nat) : Int)
  omega
theorem r_cpT {b nb i : Nat} {sp dp n : Int32} {E : gM → Option β} (hd : decode cc pc = .ok (.invokestatic i, 3)) (hw : gCpw own i) (hR : 1 ≤ (gRm Y).frames ∧ 26 ≤ (gRm Y).locals) (hc : (st.map fun v => v.category).sum ≤ 8) (hb : gIn Y.2.1 b 7 nb) (h : gCpT gFirst σ b nb sp dp n E = some o) (k : ∀ σ1, E σ1 = some o → AW Y cc own (pc + 3) ls st σ1) : AW Y cc own pc ls (.int n :: .int dp :: .ref b :: .int sp :: .ref 20010 :: st) σ := by
  unfold gCpT at h
  split at h
  · cases h
  rename_i hn
  have h1 : ¬ sp < 0 := fun q => hn (Or.inl q)
  have h2 : ¬ dp < 0 := fun q => hn (Or.inr (Or.inl q))
  have h3 : ¬ n < 0 := fun q => hn (Or.inr (Or.inr (Or.inl q)))
  have h4 : sp.toNatClampNeg + n.toNatClampNeg ≤ 5 := Nat.not_lt.mp fun q => hn (Or.inr (Or.inr (Or.inr (Or.inl q))))
  have h5 : dp.toNatClampNeg + n.toNatClampNeg ≤ nb := Nat.not_lt.mp fun q => hn (Or.inr (Or.inr (Or.inr (Or.inr q))))
  obtain ⟨G, u, nL, p, l, e, R, s, m, args, below, meth, c, cells, slots, Q⟩ := Y
  intro hf H locs la hW hS hlv
  have hts := hf.2.2.2.2.1
  obtain ⟨q1, hk1, hq1⟩ := gIn_arr (G := G) (σ := σ) (kd := 7) (by decide) (by decide) hb
  obtain ⟨scr, hs1, hs2, hs3, hs4, -, hs5, hs7⟩ := hW.2.2.2.1.2.1.2
  have hdst : H[G.2.2.1 b]? = some (vp_cell (G.2.1 7) (nb, .inl (fun j => if j < nb then σ (b + j) else 0))) := hW.1 q1 _ hq1
  obtain ⟨hs6, k0, hk0, cm0, hkk0⟩ := hs2
  obtain ⟨-, k1, hkc1, cm1, hkk1⟩ := (hW.2.2.1.1.2 1 _ rfl).1 nb (fun j => .int (if j < nb then σ (b + j) else 0))
  intro T hT X
  obtain ⟨vm', X', step⟩ := X.arraycopy hf.1 hf.2.2.2.1 (hts _ hw.1) (hts _ hw.2.1) (hts _ hw.2.2.1) (hts _ hw.2.2.2) (src := G.2.2.1 20010) (dst := G.2.2.1 b) (cs := scr) (cd := vp_cell (G.2.1 7) (nb, .inl (fun j => if j < nb then σ (b + j) else 0))) (srcPos := sp) (destPos := dp) (n := n) (by rw [hT]; exact hs1) (by rw [hT]; exact hdst)
    hs6 (fun _ q => by cases q) hs3 (fun q => by cases q) hk0 hkc1 hkk0 hkk1 (by simp [refKind]) h1 h2 h3
    (by rw [gNn h1, gNn h3]; omega)
    (by rw [gNn h2, gNn h3]; show ¬ _ > ((arrV (G.2.1 7) nb _).slots.size : Int); rw [arrV_size]; omega)
    (fun vm₁ _ i hi => by
      have e9 : scr.slots.getD (sp.toNatClampNeg + i) .null = .int (gFirst (sp.toNatClampNeg + i)) := by
        rw [Array.getD_eq_getD_getElem?, hs5 _ (by omega)]
        rfl
      rw [e9]
      exact ⟨rfl, trivial⟩)
    (g := F0 m pc la (.int n :: .int dp :: .ref (G.2.2.1 b) :: .int sp :: .ref (G.2.2.1 20010) :: st.map (gV G))) rfl (by rw [hf.2.2.1]; exact hlv.1) (rest := st.map (gV G)) rfl (by rw [hf.2.1]; exact hd) hR.1 (by
      have q : nativeFrameWords "java/lang/System" "arraycopy" 5 = 7 := by decide +kernel
      have q2 : 26 ≤ R.locals := hR.2
      rw [gCat]
      show 2 * 0 + _ + _ ≤ _
      omega)
  have e1 : copied scr (vp_cell (G.2.1 7) (nb, .inl (fun j => if j < nb then σ (b + j) else 0))) sp dp n = vp_cell (G.2.1 7) (nb, .inl (fun j => if j < nb then gCpTM gFirst σ b sp.toNatClampNeg dp.toNatClampNeg n.toNatClampNeg (b + j) else 0)) := by
    rw [show (fun j => if j < nb then gCpTM gFirst σ b sp.toNatClampNeg dp.toNatClampNeg n.toNatClampNeg (b + j) else 0) = va_cpy gFirst (fun j => if j < nb then σ (b + j) else 0) sp.toNatClampNeg dp.toNatClampNeg n.toNatClampNeg from ?_]
    · exact va_copiedX (fun z => .int z) scr (G.2.1 7) gFirst (fun j => if j < nb then σ (b + j) else 0) hs5 h4
    · funext j
      unfold va_cpy gCpTM
      dsimp only
      by_cases hj : dp.toNatClampNeg ≤ j ∧ j < dp.toNatClampNeg + n.toNatClampNeg
      · rw [if_pos hj, if_pos (show j < nb by omega), if_pos (by omega)]
        congr 1
        omega
      · rw [if_neg hj]
        split
        · rw [if_neg (by omega)]
        · rfl
  rw [e1] at X' step
  generalize hC : vp_cell (G.2.1 7) (nb, .inl (fun j => if j < nb then gCpTM gFirst σ b sp.toNatClampNeg dp.toNatClampNeg n.toNatClampNeg (b + j) else 0)) = C1 at X' step
  have hl : G.2.2.1 b < H.size := (Array.getElem?_eq_some_iff.mp hdst).1
  have hheap : ((T.setVm vm').setCell (G.2.2.1 b) C1).heap = H.setIfInBounds (G.2.2.1 b) C1 := by rw [← hT]; rfl
  have oq : ∀ q : Nat, q ≠ G.2.2.1 b → (H.setIfInBounds (G.2.2.1 b) C1)[q]? = H[q]? := fun q hq => by simp [Array.getElem?_setIfInBounds, Ne.symm hq]
  have hab : gA G (G.2.2.1 b) := hW.2.1.2 q1 _ hq1
  have hP1 := hW.1.set hW.2.1 hq1 (e := .inl (G.2.1 7, nb, .inl (fun j => if j < nb then gCpTM gFirst σ b sp.toNatClampNeg dp.toNatClampNeg n.toNatClampNeg (b + j) else 0))) (H1 := H.setIfInBounds (G.2.2.1 b) C1) (show (H.setIfInBounds (G.2.2.1 b) C1)[G.2.2.1 b]? = some _ by rw [hC]; simp [Array.getElem?_setIfInBounds, hl]) oq
  have hD1 := hW.2.1.set hq1 (e := .inl (G.2.1 7, nb, .inl (fun j => if j < nb then gCpTM gFirst σ b sp.toNatClampNeg dp.toNatClampNeg n.toNatClampNeg (b + j) else 0)))
  rw [gCpW (σ' := gCpTM gFirst σ b sp.toNatClampNeg dp.toNatClampNeg n.toNatClampNeg) (by decide) (by decide) hk1 h5 (fun x hx => by unfold gCpTM; rw [if_neg hx])] at hP1 hD1
  have fin : ∀ L : List Loc, (∀ z ∈ L, z.base = G.2.2.1 b) → Stand p l e R s m args below meth c ((T.setVm vm').setCell (G.2.2.1 b) C1) (locs ++ L) cells slots → ∃ t, Steps p.tables e below (((T.setVm vm').setCell (G.2.2.1 b) C1).setTop (F0 m (pc + 3) la (st.map (gV G)))) t ∧ Q t := by
    intro L hL X2
    have hS1 : va_S (gA G) s.heap (H.setIfInBounds (G.2.2.1 b) C1) (locs ++ L) := ⟨by simp; exact hS.1, fun q g1 g2 => by
      rw [oq q (fun e => g2 (by rw [e]; exact hab))]
      exact hS.2.1 q g1 g2, fun q hq => by
      rcases List.mem_append.mp hq with hh | hh
      · exact hS.2.2 q hh
      · rw [hL q hh]
        exact hab⟩
    exact k _ h hf _ _ la ⟨hP1, hD1, hW.2.2.1, gSt_S hW.2.2.2.1 hS hS1 hf.2.2.2.2.2.1, Nat.le_trans hf.2.2.2.2.2.1 hS1.1⟩ hS1 hlv _ hheap X2
  obtain ⟨t, a1, b1⟩ := fin _ (fun z hz => by
    obtain ⟨w, -, hw2⟩ := List.mem_map.mp hz
    rw [← hw2]) X'
  exact ⟨t, step t a1, b1⟩
end GT
theorem sX5_214 {Y : gY} {cc : ByteArray} {pc : Nat} {ls : List (Option Value)} {st : List Value} {σ : gM} (hd : decode cc pc = .ok (.getstatic 214, 3)) (k : AW Y cc RX5 (pc + 3) ls (.ref 20001 :: st) σ) : AW Y cc RX5 pc ls st σ := r_gets (C := "LoafRounds$Refusal") (n := "NO_PLACE") (d := "LLoafRounds$Refusal;") (v := .ref 20001) (fun _ _ q => (q.1.1 1 (by decide)).1) (gG_mem (List.mem_of_getElem? (i := 751) (by decide +kernel)) rfl) hd k
theorem sX5_220 {Y : gY} {cc : ByteArray} {pc : Nat} {ls : List (Option Value)} {st : List Value} {σ : gM} (hd : decode cc pc = .ok (.getstatic 220, 3)) (k : AW Y cc RX5 (pc + 3) ls (.ref 20002 :: st) σ) : AW Y cc RX5 pc ls st σ := r_gets (C := "LoafRounds$Refusal") (n := "NO_ARGUMENT") (d := "LLoafRounds$Refusal;") (v := .ref 20002) (fun _ _ q => (q.1.1 2 (by decide)).1) (gG_mem (List.mem_of_getElem? (i := 752) (by decide +kernel)) rfl) hd k
theorem sX5_223 {Y : gY} {cc : ByteArray} {pc : Nat} {ls : List (Option Value)} {st : List Value} {σ : gM} (hd : decode cc pc = .ok (.getstatic 223, 3)) (k : AW Y cc RX5 (pc + 3) ls (.ref 20003 :: st) σ) : AW Y cc RX5 pc ls st σ := r_gets (C := "LoafRounds$Refusal") (n := "NO_ROOM") (d := "LLoafRounds$Refusal;") (v := .ref 20003) (fun _ _ q => (q.1.1 3 (by decide)).1) (gG_mem (List.mem_of_getElem? (i := 753) (by decide +kernel)) rfl) hd k
theorem sX0_122 {Y : gY} {cc : ByteArray} {pc : Nat} {ls : List (Option Value)} {st : List Value} {σ : gM} (hd : decode cc pc = .ok (.getstatic 122, 3)) (k : AW Y cc RX0 (pc + 3) ls (.ref 20001 :: st) σ) : AW Y cc RX0 pc ls st σ := r_gets (C := "LoafRounds$Refusal") (n := "NO_PLACE") (d := "LLoafRounds$Refusal;") (v := .ref 20001) (fun _ _ q => (q.1.1 1 (by decide)).1) (gG_mem (List.mem_of_getElem? (i := 493) (by decide +kernel)) rfl) hd k
theorem sX0_128 {Y : gY} {cc : ByteArray} {pc : Nat} {ls : List (Option Value)} {st : List Value} {σ : gM} (hd : decode cc pc = .ok (.getstatic 128, 3)) (k : AW Y cc RX0 (pc + 3) ls (.ref 20002 :: st) σ) : AW Y cc RX0 pc ls st σ := r_gets (C := "LoafRounds$Refusal") (n := "NO_ARGUMENT") (d := "LLoafRounds$Refusal;") (v := .ref 20002) (fun _ _ q => (q.1.1 2 (by decide)).1) (gG_mem (List.mem_of_getElem? (i := 495) (by decide +kernel)) rfl) hd k
theorem sX0_131 {Y : gY} {cc : ByteArray} {pc : Nat} {ls : List (Option Value)} {st : List Value} {σ : gM} (hd : decode cc pc = .ok (.getstatic 131, 3)) (k : AW Y cc RX0 (pc + 3) ls (.ref 20000 :: st) σ) : AW Y cc RX0 pc ls st σ := r_gets (C := "LoafRounds$Refusal") (n := "NOTHING") (d := "LLoafRounds$Refusal;") (v := .ref 20000) (fun _ _ q => (q.1.1 0 (by decide)).1) (gG_mem (List.mem_of_getElem? (i := 497) (by decide +kernel)) rfl) hd k
theorem sX0_134 {Y : gY} {cc : ByteArray} {pc : Nat} {ls : List (Option Value)} {st : List Value} {σ : gM} (hd : decode cc pc = .ok (.getstatic 134, 3)) (k : AW Y cc RX0 (pc + 3) ls (.ref 20003 :: st) σ) : AW Y cc RX0 pc ls st σ := r_gets (C := "LoafRounds$Refusal") (n := "NO_ROOM") (d := "LLoafRounds$Refusal;") (v := .ref 20003) (fun _ _ q => (q.1.1 3 (by decide)).1) (gG_mem (List.mem_of_getElem? (i := 499) (by decide +kernel)) rfl) hd k
theorem sX0_54 {Y : gY} {cc : ByteArray} {pc : Nat} {ls : List (Option Value)} {st : List Value} {σ : gM} (hd : decode cc pc = .ok (.getstatic 54, 3)) (k : AW Y cc RX0 (pc + 3) ls (.ref 20010 :: st) σ) : AW Y cc RX0 pc ls st σ := r_getsN (host := "LoafRounds") (C := "LoafRounds") (n := "FIRST_SETTING") (d := "[I") (v := .ref 20010) (fun _ _ q => q.2.1.1) (gN_mem (List.mem_of_getElem? (i := 178) (by decide +kernel)) rfl) hd k
theorem sX0_116 {Y : gY} {cc : ByteArray} {pc : Nat} {ls : List (Option Value)} {st : List Value} {σ : gM} (hd : decode cc pc = .ok (.getstatic 116, 3)) (k : AW Y cc RX0 (pc + 3) ls (.ref 20011 :: st) σ) : AW Y cc RX0 pc ls st σ := r_getsN (host := "LoafRounds") (C := "LoafRounds") (n := "LEAST_SETTING") (d := "[I") (v := .ref 20011) (fun _ _ q => q.2.2.1.1) (gN_mem (List.mem_of_getElem? (i := 511) (by decide +kernel)) rfl) hd k
theorem sX0_119 {Y : gY} {cc : ByteArray} {pc : Nat} {ls : List (Option Value)} {st : List Value} {σ : gM} (hd : decode cc pc = .ok (.getstatic 119, 3)) (k : AW Y cc RX0 (pc + 3) ls (.ref 20012 :: st) σ) : AW Y cc RX0 pc ls st σ := r_getsN (host := "LoafRounds") (C := "LoafRounds") (n := "GREATEST_SETTING") (d := "[I") (v := .ref 20012) (fun _ _ q => q.2.2.2.1.1) (gN_mem (List.mem_of_getElem? (i := 513) (by decide +kernel)) rfl) hd k
theorem mwX0_57 : gCpw RX0 57 := ⟨gG_mem (List.mem_of_getElem? (i := 180) (by decide +kernel)) rfl, gG_mem (List.mem_of_getElem? (i := 182) (by decide +kernel)) rfl, gG_mem (List.mem_of_getElem? (i := 181) (by decide +kernel)) rfl, gG_mem (List.mem_of_getElem? (i := 77) (by decide +kernel)) rfl⟩
theorem mwX1_46 : gCpw RX1 46 := ⟨gG_mem (List.mem_of_getElem? (i := 766) (by decide +kernel)) rfl, gG_mem (List.mem_of_getElem? (i := 182) (by decide +kernel)) rfl, gG_mem (List.mem_of_getElem? (i := 181) (by decide +kernel)) rfl, gG_mem (List.mem_of_getElem? (i := 77) (by decide +kernel)) rfl⟩
