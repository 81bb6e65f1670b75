/-! the start: the world out of what the Statement gives; the objects are made; the loop begins -/
def gIdx (a : Nat) : Nat := gObs.findIdx (fun o => o.1 == a)
theorem gObs_pos : ∀ o ∈ gObs, 0 < gSz o ∧ o.1 < 20000 := by decide +kernel
theorem gIdx_ok {k : Nat} {o : Nat × Nat × Nat} (h : gObs[k]? = some o) : gIdx o.1 = k ∧ o.1 < 20000 := by
  refine ⟨?_, (gObs_pos o (List.mem_of_getElem? h)).2⟩
  obtain ⟨hk, he⟩ := List.getElem?_eq_some_iff.mp h
  unfold gIdx
  rw [List.findIdx_eq hk]
  refine ⟨by rw [he]; simp, fun j hj => ?_⟩
  have hj2 : j < gObs.length := Nat.lt_trans hj hk
  have h1 := gChain_ord gObs gObs_chain j k gObs[j] o hj (List.getElem?_eq_getElem hj2) h
  have h2 := (gObs_pos gObs[j] (List.getElem_mem hj2)).1
  simp only [beq_eq_false_iff_ne, ne_eq]
  omega
def gVr (v : Value) : Nat := match v with | .ref z => z | _ => 0
def gGiven : List Cond := flatC (Jvm.Cond.and given_1 narrow_1)
theorem gs_ex : ∀ i, i < 8 → Cond.exactly (.string "LoafRounds$Text" (gTk.getD i 0)) "java/lang/String" ∈ gGiven := by decide +kernel
theorem gs_co : ∀ i, i < 8 → Cond.eq (.field (.string "LoafRounds$Text" (gTk.getD i 0)) "java/lang/String" "coder" "B") (.int 0) ∈ gGiven := by decide +kernel
theorem gs_ar : ∀ i, i < 8 → Cond.arrayOf (.field (.string "LoafRounds$Text" (gTk.getD i 0)) "java/lang/String" "value" "[B") .byte ∈ gGiven := by decide +kernel
theorem gs_le : ∀ i, i < 8 → Cond.eq (.length (.field (.string "LoafRounds$Text" (gTk.getD i 0)) "java/lang/String" "value" "[B")) (.int (Int32.ofNat (gTlen.getD i 0))) ∈ gGiven := by decide +kernel
theorem gs_el : ∀ i, i < 8 → ∀ j, j < gTlen.getD i 0 → Cond.eq (.elem (.field (.string "LoafRounds$Text" (gTk.getD i 0)) "java/lang/String" "value" "[B") (.int (Int32.ofNat j))) (.int ((gTbyt.getD i []).getD j 0)) ∈ gGiven := by decide +kernel
theorem gs_ne : ∀ i, i < 8 → ∀ j, j < 8 → i ≠ j → Cond.not (Cond.eq (.string "LoafRounds$Text" (gTk.getD i 0)) (.string "LoafRounds$Text" (gTk.getD j 0))) ∈ gGiven ∨ Cond.not (Cond.eq (.string "LoafRounds$Text" (gTk.getD j 0)) (.string "LoafRounds$Text" (gTk.getD i 0))) ∈ gGiven := by decide +kernel
theorem gs_n8 : ∀ i, i < 8 → gTlen.getD i 0 < 2 ^ 31 := by decide
theorem gs_sr : ∀ i, i < 8 → Cond.stringRef "LoafRounds$Text" (gTk.getD i 0) (gTx.getD i "") ∈ lw_tbl := by decide +kernel
theorem gs_mr : ∀ i, i < 3 → Cond.stringRef "LoafRounds" (gMk.getD i 0) (gMx.getD i "") ∈ lw_tbl := by decide +kernel
theorem gs_mx : ∀ i, i < 3 → Cond.exactly (.string "LoafRounds" (gMk.getD i 0)) "java/lang/String" ∈ gGiven := by decide +kernel
theorem gs_nc : ∀ i, i < 3 → ∀ j, j < 3 → i ≠ j → Cond.not (Cond.castable (gEx.getD i "") (gEx.getD j "")) ∈ gGiven := by decide +kernel
def gEnm : List String := ["NOTHING", "NO_PLACE", "NO_ARGUMENT", "NO_ROOM"]
theorem gs_el1 : ∀ i, i < 4 → Cond.laysStatic "LoafRounds$Refusal" (gEnm.getD i "") "LLoafRounds$Refusal;" ∈ lw_tbl := by decide +kernel
theorem gs_ee : ∀ i, i < 4 → Cond.exactly (.static "LoafRounds$Refusal" (gEnm.getD i "") "LLoafRounds$Refusal;") "LoafRounds$Refusal" ∈ gGiven := by decide +kernel
theorem gs_en : ∀ i, i < 4 → ∀ j, j < 4 → i ≠ j → Cond.not (.eq (.static "LoafRounds$Refusal" (gEnm.getD i "") "LLoafRounds$Refusal;") (.static "LoafRounds$Refusal" (gEnm.getD j "") "LLoafRounds$Refusal;")) ∈ gGiven ∨ Cond.not (.eq (.static "LoafRounds$Refusal" (gEnm.getD j "") "LLoafRounds$Refusal;") (.static "LoafRounds$Refusal" (gEnm.getD i "") "LLoafRounds$Refusal;")) ∈ gGiven := by decide +kernel
def gTn : List String := ["FIRST_SETTING", "LEAST_SETTING", "GREATEST_SETTING"]
def gTf (i : Nat) : Nat → Int32 := match i with | 0 => gFirst | 1 => gLeast | _ => gGreat
theorem gs_ta : ∀ i, i < 3 → Cond.arrayOf (.static "LoafRounds" (gTn.getD i "") "[I") .int ∈ gGiven ∧ Cond.eq (.length (.static "LoafRounds" (gTn.getD i "") "[I")) (.int (Int32.ofNat 5)) ∈ gGiven ∧ Cond.laysStatic "LoafRounds" (gTn.getD i "") "[I" ∈ lw_tbl := by decide +kernel
theorem gs_te : ∀ i, i < 3 → ∀ j, j < 5 → Cond.eq (.elem (.static "LoafRounds" (gTn.getD i "") "[I") (.int (Int32.ofNat j))) (.int (gTf i j)) ∈ gGiven := by decide +kernel
theorem gs_in : Cond.initialized "LoafRounds" ∈ lw_tbl ∧ Cond.initialized "LoafRounds$Refusal" ∈ lw_tbl ∧ Cond.initialized "java/lang/String" ∈ lw_tbl ∧ Cond.initialized "jdk/internal/util/Preconditions" ∈ lw_tbl ∧ Cond.initialized Bundle.tN ∈ lw_tbl := by decide +kernel
theorem gs_st : Cond.laysStatic "java/lang/String" "COMPACT_STRINGS" "Z" ∈ lw_tbl ∧ Cond.laysStatic "jdk/internal/util/Preconditions" "SIOOBE_FORMATTER" "Ljava/util/function/BiFunction;" ∈ lw_tbl ∧ Cond.laysStatic Bundle.tN "UNASSIGNED_STACK" Bundle.steD ∈ lw_tbl ∧ Cond.laysStatic Bundle.tN "SUPPRESSED_SENTINEL" Bundle.listD ∈ lw_tbl := by decide +kernel
theorem gs_sg : Cond.eq (.static "java/lang/String" "COMPACT_STRINGS" "Z") (.int 1) ∈ gGiven ∧ Cond.isRef (.static "jdk/internal/util/Preconditions" "SIOOBE_FORMATTER" "Ljava/util/function/BiFunction;") ∈ gGiven ∧ Cond.isRef (.static Bundle.tN "UNASSIGNED_STACK" Bundle.steD) ∈ gGiven ∧ Cond.isRef (.static Bundle.tN "SUPPRESSED_SENTINEL" Bundle.listD) ∈ gGiven := by decide +kernel
theorem gs_ao : Cond.arrayOver (.object "LoafRounds$Book") ∈ lw_tbl ∧ Cond.arrayOver (.object "LoafRounds$Customer") ∈ lw_tbl := by decide +kernel
theorem gArrP {ty : FieldType} {args : Array Value} {s : State} (h : (Cond.arrayClass ty).before args s = true) (hp : ∀ z, ty ≠ .object z) : ∃ cA, ArrOfT s cA ty ∧ va_RA s cA ty := by
  obtain ⟨cA, kA, comp, h1, h2, h3⟩ := Cond.arrayClass_spec h
  refine ⟨cA, fun n z => ⟨fun k h => (by cases h), kA, h2, comp, h3⟩, ?_⟩
  unfold va_RA
  split
  · rename_i z
    exact absurd rfl (hp z)
  · exact h1
theorem gArrO {C : String} {args : Array Value} {s : State} (h : (Cond.arrayOver (.object C)).before args s = true) : ∃ cA, ArrOfT s cA (.object C) ∧ va_RA s cA (.object C) := by
  obtain ⟨comp, c, k, h1, -, h3, h4, h5⟩ := Cond.arrayOver_spec h
  exact ⟨c, fun n z => ⟨fun k h => (by cases h), k, h3, comp, h4⟩, k, comp, h3, h4, h1, h5⟩
theorem g_init {a : Nat} {σ : gM} (hz : σ (a + 7) = 0 ∧ σ (a + 745) = 0 ∧ σ (a + 746) = 0 ∧ σ (a + 5075) = 0 ∧ σ (a + 5076) = 0) (hm : ∃ σ' σ2 : gM, fX0_makeNew (a + 128) σ' = some σ2 ∧ ∀ x, (a + 128) ≤ x → x < (a + 436) → σ x = σ2 x) : gI1 a t0 σ := by
  obtain ⟨σ', σ2, h1, h2⟩ := hm
  obtain ⟨o, k1, k2, k3⟩ := c_make (a + 128) σ'
  have e : σ2 = o := Option.some.inj (h1.symm.trans k1)
  subst e
  refine ⟨Cx.ag k3 (by decide) (fun x a1 a2 a3 => h2 x (by omega) (by omega)), Iv0 90000, ⟨0, 0, fun _ => (S0, D0), by omega, Nat.zero_le _, rfl, ⟨hz.2.1, hz.2.2.1, fun j hj => absurd hj (Nat.not_lt_zero j)⟩, fun j hj => absurd hj (Nat.not_lt_zero j)⟩, fun s hs => ⟨?_, Nat.zero_le _, fun q => absurd (show (0 : Nat) = 1 from q) (by decide)⟩⟩
  rcases (show s = 0 ∨ s = 1 by omega) with r | r <;> subst r
  · exact hz.2.2.2.1
  · exact hz.2.2.2.2
theorem gWd_start {G : gX} {σ : gM} {s : State} (hK : gKS G s) (hS : gSt G s s.heap) (hz : G.2.2.2 = s.heap.size) : gWd G (0, gTau, fun _ => 0) σ s s.heap := by
  refine ⟨fun k q h => ?_, ⟨fun i j p q h => ?_, fun k q h => ?_⟩, hK, hS, Nat.le_of_eq hz⟩
  · simp [gWs] at h
  · simp [gWs] at h
  · simp [gWs] at h
set_option maxHeartbeats 8000000 in
set_option maxRecDepth 100000 in
theorem g_start (hmk : gMkOk) (hlaw : ∀ (L : Nat) (xs : Nat → Int32), L ≤ 260 → ∃ o : gS × Int32, aL_lawB L xs ((t0, t0), 0) = some o ∧ o.2 = 1) {p : Program} {e : Env} {s : State} {m : MethodId} {below : List Frame} {meth : Method} {c : Code} (l : Launch) (hflags : l.flags = flags0) {b L : Nat} {xs : Nat → Int32} (hL : L ≤ 260) (C0 : lw_At p s m meth c b L xs) : W p l e room_1 s m #[Value.ref b] below meth c s.heap [] 0 0 (lw_Z below #[Value.ref b] s) (entryFrame m ([Value.ref b] : List Value).toArray 9) := by
  obtain ⟨hx, hb, hr, hml, hown, hts, hX, hbl, hlocks, hgv⟩ := id C0
  have hs : ∀ w ∈ gGiven, w.before #[Value.ref b] s = true := flat_of_before _ hgv
  have hlt : l.stackTraces = false := by
    unfold Launch.stackTraces
    rw [hflags]
    decide +kernel
  have hA : ∀ a : Nat, a < s.heap.size → ¬ (fun q : Nat => s.heap.size ≤ q) a := fun a h => Nat.not_le.mpr h
  have hgG : ∀ w ∈ gG, w.before #[Value.ref b] s = true := fun w hw => hts w (List.mem_filter.mp hw).1
  -- classes
  obtain ⟨c0, i0, hK0⟩ := u_known (C := RX0) (T := TX0) (N := 11) hts (fun w hw => (List.mem_filter.mp (inG0 w hw)).1) (hgG _ nwX5_16.2.1)
  obtain ⟨c1, i1, hK1⟩ := u_known (C := RX1) (T := TX1) (N := 11) hts (fun w hw => (List.mem_filter.mp (inG1 w hw)).1) (hgG _ nwX0_9.2.1)
  obtain ⟨c2, i2, hK2⟩ := u_known (C := RX2) (T := TX2) (N := 3) hts (fun w hw => (List.mem_filter.mp (inG2 w hw)).1) (hgG _ nwX5_26.2.1)
  obtain ⟨c3, i3, hK3⟩ := u_known (C := RX4) (T := TX4) (N := 2) hts (fun w hw => (List.mem_filter.mp (inG3 w hw)).1) (hgG _ nwX5_7.2.1)
  obtain ⟨c4, i4, hK4⟩ := u_known (C := RX5) (T := TX5) (N := 6) hts (fun w hw => (List.mem_filter.mp (inG4 w hw)).1) (hgG _ nwL_8.2.1)
  obtain ⟨dC, dI, hKc⟩ : ∃ (dC : Nat → ClassId) (dI : Nat → Nat → Nat), ∀ (k : Nat) (q : vw_C), vwCl[k]? = some q → u_Kn s q.1 q.2.1 q.2.2 (dC k) (dI k) := by
    refine ⟨fun k => match k with | 0 => c0 | 1 => c1 | 2 => c2 | 3 => c3 | _ => c4, fun k => match k with | 0 => i0 | 1 => i1 | 2 => i2 | 3 => i3 | _ => i4, ?_⟩
    intro k q hq
    match k, hq with
    | 0, hq => cases hq; exact hK0
    | 1, hq => cases hq; exact hK1
    | 2, hq => cases hq; exact hK2
    | 3, hq => cases hq; exact hK3
    | 4, hq => cases hq; exact hK4
    | k + 5, hq => simp [vwCl] at hq
  -- arrays
  obtain ⟨a6, hA6⟩ := gArrP (hgG _ ac_char) (by intro z h; cases h)
  obtain ⟨a7, hA7⟩ := gArrP (hgG _ ac_int) (by intro z h; cases h)
  obtain ⟨a8, hA8⟩ := gArrP (hgG _ ac_boolean) (by intro z h; cases h)
  obtain ⟨a9, hA9⟩ := gArrO (hts _ gs_ao.1)
  obtain ⟨a10, hA10⟩ := gArrO (hts _ gs_ao.2)
  -- constants
  obtain ⟨adE, hEn⟩ := va_Enof (E := "LoafRounds$Refusal") (d := "LLoafRounds$Refusal;") (nm := gEnm) (F := []) (A := fun q => s.heap.size ≤ q) (fun i hi => hts _ (gs_el1 i hi)) (hts _ gs_in.2.1) (fun i hi => hs _ (gs_ee i hi)) (fun q hq => nomatch hq) (fun i j hi hj hij => (gs_en i hi j hj hij).imp (hs _) (hs _)) hA
  obtain ⟨adK, adV, hStr, hSev⟩ := vk_Sof (N := 8) (tm := fun i => .string "LoafRounds$Text" (gTk.getD i 0)) (len := gTlen) (byt := gTbyt) (A := fun q => s.heap.size ≤ q) gs_n8 (fun i hi => hs _ (gs_ex i hi)) (fun i hi => hs _ (gs_co i hi)) (fun i hi => hs _ (gs_ar i hi)) (fun i hi => hs _ (gs_le i hi)) (fun i hi j hj => hs _ (gs_el i hi j hj)) (fun i j hi hj hij => (gs_ne i hi j hj hij).imp (hs _) (hs _)) hA
  have hTab : ∀ i, ∃ t : Nat, i < 3 → va_Z "LoafRounds" (gTn.getD i "") "[I" (.ref t) (fun q => s.heap.size ≤ q) s s.heap ∧ va_T .int t 5 (fun j => .int (gTf i j)) (fun q => s.heap.size ≤ q) s s.heap := by
    intro i
    by_cases hi : i < 3
    · obtain ⟨t, e1, e2⟩ := va_Tof (tm := .static "LoafRounds" (gTn.getD i "") "[I") (ty := .int) (N := 5) (f := fun j => .int (gTf i j)) (A := fun q => s.heap.size ≤ q) (by decide) (hs _ (gs_ta i hi).1) (va_eqt (hs _ (gs_ta i hi).2.1)) (fun j hj => va_eqt (hs _ (gs_te i hi j hj))) hA
      exact ⟨t, fun _ => ⟨va_Zref (hts _ (gs_ta i hi).2.2) (hts _ gs_in.1) e1 hA, e2⟩⟩
    · exact ⟨0, fun h => absurd h hi⟩
  obtain ⟨tb, hTb⟩ := Classical.axiomOfChoice hTab
  obtain ⟨vF, hvF, hvR⟩ := Cond.isRef_spec (hs _ gs_sg.2.1)
  have hSio := va_Zof (A := fun q => s.heap.size ≤ q) (hts _ gs_st.2.1) (hts _ gs_in.2.2.2.1) hvF hA
  -- the flat world's addresses
  obtain ⟨ad, had⟩ : ∃ ad : Nat → Nat, ad = fun a => if a < 20000 then s.heap.size + gIdx a else if a < 20010 then adE (a - 20000) else if a < 20030 then tb (a - 20010) else if a < 20040 then adK (a - 20030) else if a < 20050 then adV (a - 20040) else if a = 20050 then gVr vF else if a = 30000 then b else if a = 30001 then L else (xs (a - 40000)).toBitVec.toNat := ⟨_, rfl⟩
  obtain ⟨G, hG⟩ : ∃ G : gX, G = ((dC, dI), (fun k => match k with | 6 => a6 | 7 => a7 | 8 => a8 | 9 => a9 | _ => a10), ad, s.heap.size) := ⟨_, rfl⟩
  have hpl : gPl G := by
    intro k o ho
    have h1 := gIdx_ok ho
    rw [hG]
    show ad o.1 = s.heap.size + k
    rw [had]
    simp only
    rw [if_pos h1.2, h1.1]
  have hGA : gA G = fun q => s.heap.size ≤ q := by rw [hG]
  have hE : ∀ i, i < 10 → G.2.2.1 (20000 + i) = adE i := fun i hi => by
    rw [hG]
    show ad (20000 + i) = adE i
    rw [had]
    simp only
    rw [if_neg (by omega), if_pos (by omega), show 20000 + i - 20000 = i by omega]
  have hTt : ∀ i, i < 20 → G.2.2.1 (20010 + i) = tb i := fun i hi => by
    rw [hG]
    show ad (20010 + i) = tb i
    rw [had]
    simp only
    rw [if_neg (by omega), if_neg (by omega), if_pos (by omega), show 20010 + i - 20010 = i by omega]
  have hKk : ∀ i, i < 10 → G.2.2.1 (20030 + i) = adK i := fun i hi => by
    rw [hG]
    show ad (20030 + i) = adK i
    rw [had]
    simp only
    rw [if_neg (by omega), if_neg (by omega), if_neg (by omega), if_pos (by omega), show 20030 + i - 20030 = i by omega]
  have hVv : ∀ i, i < 10 → G.2.2.1 (20040 + i) = adV i := fun i hi => by
    rw [hG]
    show ad (20040 + i) = adV i
    rw [had]
    simp only
    rw [if_neg (by omega), if_neg (by omega), if_neg (by omega), if_neg (by omega), if_pos (by omega), show 20040 + i - 20040 = i by omega]
  have hF5 : G.2.2.1 20050 = gVr vF := by
    rw [hG]
    show ad 20050 = _
    rw [had]
    rfl
  have hb3 : G.2.2.1 30000 = b := by
    rw [hG]
    show ad 30000 = _
    rw [had]
    rfl
  have hLe : G.2.2.1 30001 = L := by
    rw [hG]
    show ad 30001 = _
    rw [had]
    rfl
  have hxs : gXs G = xs := by
    funext j
    unfold gXs
    rw [hG]
    show Int32.ofBitVec (BitVec.ofNat 32 (ad (40000 + j))) = xs j
    rw [had]
    simp only
    rw [if_neg (by omega), if_neg (by omega), if_neg (by omega), if_neg (by omega), if_neg (by omega), if_neg (by omega), if_neg (by omega), if_neg (by omega), show 40000 + j - 40000 = j by omega]
    simp
  have hKS : gKS G s := by
    refine ⟨⟨by rw [hG]; exact hKc, fun k q hk => ?_⟩, fun w hw => va_Nw.of (gNestT (List.mem_filter.mp hw).2) (hts w (List.mem_filter.mp hw).1), fun i hi => ?_, fun i hi => ?_, fun i j hi hj hij => va_Nc.of (hs _ (gs_nc i hi j hj hij))⟩
    · rw [hG] at hk
      match k, hk with
      | 0, hk => cases hk; exact hA6
      | 1, hk => cases hk; exact hA7
      | 2, hk => cases hk; exact hA8
      | 3, hk => cases hk; exact hA9
      | 4, hk => cases hk; exact hA10
      | k + 5, hk => simp [gTys] at hk
    · rw [hKk i (by omega)]
      exact vk_R.of (hts _ (gs_sr i hi)) (hSev i hi)
    · obtain ⟨a, cc, cA, kA, q1, -⟩ := Cond.exactly_spec (args := #[Value.ref b]) (first := s) (o := none) (s := s) (idx := []) (hs _ (gs_mx i hi))
      exact ⟨a, vk_R.of (hts _ (gs_mr i hi)) q1⟩
  have hSt : gSt G s s.heap := by
    unfold gSt
    rw [hGA]
    refine ⟨?_, ⟨?_, ?_⟩, ⟨?_, ?_⟩, ⟨?_, ?_⟩, ?_, va_Zof (hts _ gs_st.1) (hts _ gs_in.2.2.1) (va_eqt (hs _ gs_sg.1)) hA, ?_, vx_Zqof (hts _ gs_st.2.2.1) (hts _ gs_in.2.2.2.2) (hs _ gs_sg.2.2.1) hA, vx_Zqof (hts _ gs_st.2.2.2) (hts _ gs_in.2.2.2.2) (hs _ gs_sg.2.2.2) hA, by unfold gScG; rw [hb3, hLe, hxs]; exact ⟨hX, by rw [hG]; exact hbl, hbl⟩⟩
    · refine ⟨fun i hi => ?_, fun i j hi hj h => ?_⟩
      · have hi4 : i < 4 := hi
        simp only [hE i (show i < 10 by omega)]
        exact hEn.1 i hi
      · have hi4 : i < 4 := hi
        have hj4 : j < 4 := hj
        simp only [hE i (show i < 10 by omega), hE j (show j < 10 by omega)] at h
        exact hEn.2 i j hi hj h
    · rw [hTt 0 (by omega)]; exact (hTb 0 (by decide)).1
    · rw [hTt 0 (by omega)]; exact (hTb 0 (by decide)).2
    · rw [hTt 1 (by omega)]; exact (hTb 1 (by decide)).1
    · rw [hTt 1 (by omega)]; exact (hTb 1 (by decide)).2
    · rw [hTt 2 (by omega)]; exact (hTb 2 (by decide)).1
    · rw [hTt 2 (by omega)]; exact (hTb 2 (by decide)).2
    · refine ⟨fun i hi => ?_, fun i j hi hj h => ?_⟩
      · simp only [hKk i (show i < 10 by omega), hVv i (show i < 10 by omega)]
        exact hStr.1 i hi
      · simp only [hKk i (show i < 10 by omega), hKk j (show j < 10 by omega)] at h
        exact hStr.2 i j hi hj h
    · rw [hF5]
      cases vF with
      | null => exact Or.inl hSio
      | ref z => exact Or.inr hSio
      | _ => simp [Value.isRef] at hvR
  have hAO : gAO s := ⟨va_AO.of (hts _ gs_ao.1), va_AO.of (hts _ gs_ao.2)⟩
  have hl := lv_entry ([.ref b]) (n := 9) (Nat.le_of_ble_eq_true rfl)
  rw [lg_entry_eq]
  generalize (lg_sl ([.ref b]) ++ List.replicate (9 - (lg_sl ([.ref b])).length) Slot.unset).toArray = la at hl ⊢
  have hl2 : lv_has la 9 (gPr G 0 [some (.ref 30000), none, none, none, none, none, none, none, none]) := by
    have e1 : gPr G 0 [some (.ref 30000), none, none, none, none, none, none, none, none] = [(0, .ref b)] := by
      simp only [gPr, gV, hb3]
    rw [e1]
    exact hl
  obtain ⟨Y, hY⟩ : ∃ Y : gY, Y = (G, (0, gTau, fun _ => 0), 9, p, l, e, room_1, s, m, #[Value.ref b], below, meth, c, 0, 0, lw_Z below #[Value.ref b] s) := ⟨_, rfl⟩
  have hgz : G.2.2.2 = s.heap.size := by rw [hG]
  have hfx : gFx Y cL_law RL := by
    rw [hY]
    exact ⟨hx, hb, hml, hown, hgG, Nat.le_of_eq hgz, Nat.zero_le _, Nat.zero_le _⟩
  suffices K : AW Y cL_law RL 0 [some (.ref 30000), none, none, none, none, none, none, none, none] [] (fun _ => 0) by
    rw [hY] at K hfx
    exact K hfx s.heap [] la (gWd_start hKS hSt hgz) va_S.rf hl2
  have hz : gHz Y 0 := by rw [hY]; exact ⟨hpl, by rw [hgz]; rfl, rfl, Nat.zero_le _⟩
  have hao : gAOy Y := by rw [hY]; exact hAO
  have hRm : gRm Y = room_1 := by rw [hY]; rfl
  have hnL : gNL Y = 9 := by rw [hY]; rfl
  have hCs : gCs Y = (0, 0) := by rw [hY]; rfl
  have hu0 : Y.2.1 = (0, gTau, fun _ => 0) := by rw [hY]
  have hlt1 : (gLn Y).stackTraces = false := by rw [hY]; exact hlt
  have heL : gEndL (gYs Y (1670, gTau, fun _ => 0) 1670 11386) := by rw [hY]; exact ⟨rfl, ⟨b, rfl, rfl⟩, hr, hlocks, hgz.symm, by decide, by decide⟩
  have hplY : gPl Y.1 := by rw [hY]; exact hpl
  have o0 : gObs[0]? = some (0, 4, 0) := by decide +kernel
  have o835 : gObs[835]? = some (5693, 4, 0) := by decide +kernel
  refine r_newO (pc := 0) (kd := 4) (T := TX5) (n0 := 0) (a := 0) tyX5 rfl (by decide) rfl tyX5_ok (by decide +kernel) inG4 nwL_8 dL_law_0 (by rw [hu0]; exact o0) hz (by rw [hu0]; decide) (by rw [hCs, hRm]; decide) ?_
  simp only [hCs, Nat.zero_add]
  refine r_dup (pc := 3) dL_law_3 rfl ?_
  refine r_callI (pc := 4) (n0 := 0) (tX5_init _ _ (by rw [gYs_G]; exact hplY) hmk _ 0 0 (by rw [gYs_u, hu0]; rfl) gAt0 _) ⟨rfl, rfl⟩ cd_X5_init ciL_212 nm_X5_init rfl (by rw [gYs_Rm, hRm]; decide) (Nat.le_of_ble_eq_true rfl) (gHz_s hz (by rw [hu0]; rfl) (by rw [hu0]; decide)) (gAOy_s hao) dL_law_4 (by rw [gYs_Cs, gYs_Rm, hRm]; decide) (fun U1 σ1 hr1 => ?_)
  obtain ⟨x1, x2, x3, x4, x5, x6, x7, x8, x9⟩ := hr1
  simp only [gYs_s, gYs_u, gYs_Cs] at x2 x3 ⊢
  refine r_astore_n (pc := 7) dL_law_7 rfl (by rw [gYs_nL, hnL]; decide) rfl ?_
  refine r_newO (pc := 8) (kd := 4) (T := TX5) (n0 := 0) (a := 5693) tyX5 rfl (by decide) rfl tyX5_ok (by decide +kernel) inG4 nwL_8 dL_law_8 (by rw [gYs_u, x1]; exact o835) (gHz_s hz (by omega) (by omega)) (by rw [gYs_u]; omega) (by rw [gYs_Cs, gYs_Rm, hRm]; decide) ?_
  simp only [gYs_s, gYs_u, gYs_Cs]
  refine r_dup (pc := 11) dL_law_11 rfl ?_
  refine r_callI (pc := 12) (n0 := 0) (tX5_init _ _ (by rw [gYs_G]; exact hplY) hmk _ 5693 835 (by rw [gYs_u]; simp only [gNew]; omega) gAt1 _) ⟨rfl, rfl⟩ cd_X5_init ciL_212 nm_X5_init rfl (by rw [gYs_Rm, hRm]; decide) (Nat.le_of_ble_eq_true rfl) (gHz_s hz (by simp only [gNew]; omega) (by simp only [gNew]; omega)) (gAOy_s hao) dL_law_12 (by rw [gYs_Cs, gYs_Rm, hRm]; decide) (fun U2 σ2 hr2 => ?_)
  obtain ⟨y1, y2, y3, y4, y5, y6, y7, y8, y9⟩ := hr2
  simp only [gYs_s, gYs_u, gYs_Cs] at y2 y3 ⊢
  refine r_astore_n (pc := 15) dL_law_15 rfl (by rw [gYs_nL, hnL]; decide) rfl ?_
  have k2 : ∀ x, x < 5693 → U2.2.1 x = U1.2.1 x := fun x hx => by
    rw [(y3 x (Or.inl hx)).1]
    simp only [gNew, gZt]
    rw [if_neg (by omega)]
  have k3 : ∀ x, x < 5693 → σ2 x = σ1 x := fun x hx => by
    rw [(y3 x (Or.inl hx)).2]
    simp only [gZ]
    rw [if_neg (by omega)]
  have hEkeep : ∀ (b : Nat) (τ τ' : Nat → Nat), (∀ x, b ≤ x → x < b + 308 → τ' x = τ x) → gRB b τ → gRE b 10 τ → gRB b τ' ∧ gRE b 10 τ' := fun b τ τ' hk h1 h2 => by
    refine ⟨⟨by rw [hk _ (by omega) (by omega)]; exact h1.1, by rw [hk _ (by omega) (by omega)]; exact h1.2.1, by rw [hk _ (by omega) (by omega)]; exact h1.2.2.1, by rw [hk _ (by omega) (by omega)]; exact h1.2.2.2.1, by rw [hk _ (by omega) (by omega)]; exact h1.2.2.2.2⟩, fun i hi => ?_⟩
    have q := h2 i hi
    exact ⟨by rw [hk _ (by omega) (by omega)]; exact q.1, by rw [hk _ (by omega) (by omega)]; exact q.2.1, by rw [hk _ (by omega) (by omega)]; exact q.2.2.1, by rw [hk _ (by omega) (by omega)]; exact q.2.2.2⟩
  have hbk1 := hEkeep (0 + 128) U1.2.1 U2.2.1 (fun x h1 h2 => k2 x (by omega)) x5.1 x5.2.1
  have hbk2 := hEkeep (0 + 436) U1.2.1 U2.2.1 (fun x h1 h2 => k2 x (by omega)) x5.2.2.1 x5.2.2.2
  have hTa := gTauOk (a := 0) (Or.inl rfl) (τ := U2.2.1) ⟨by rw [k2 _ (by omega)]; exact x4.1, by rw [k2 _ (by omega)]; exact x4.2.1, by rw [k2 _ (by omega)]; exact x4.2.2.1, by rw [k2 _ (by omega)]; exact x4.2.2.2.1, by rw [k2 _ (by omega)]; exact x4.2.2.2.2.1, by rw [k2 _ (by omega)]; exact x4.2.2.2.2.2.1, by rw [k2 _ (by omega)]; exact x4.2.2.2.2.2.2.1, by rw [k2 _ (by omega)]; exact x4.2.2.2.2.2.2.2⟩ ⟨hbk1.1, hbk1.2, hbk2.1, hbk2.2⟩ (fun i hi => by
      have q := x6 i hi
      exact ⟨by rw [k2 _ (by omega)]; exact q.1, hEkeep _ U1.2.1 _ (fun x h1 h2 => k2 x (by omega)) q.2.1 q.2.2⟩) (fun i hi => by
      have q := x7 i hi
      exact ⟨by rw [k2 _ (by omega)]; exact q.1, hEkeep _ U1.2.1 _ (fun x h1 h2 => k2 x (by omega)) q.2.1 q.2.2⟩)
  have hTb := gTauOk (a := 5693) (Or.inr rfl) (τ := U2.2.1) y4 y5 y6 y7
  have hlg : U2.2.2 = fun _ => 0 := by
    rw [y2]
    simp only [gNew]
    rw [x2, hu0]
    rfl
  refine r_tau (u' := (1670, gTau, fun _ => 0)) (by rw [gYs_u]; exact y1.symm) (by rw [gYs_u]; exact hlg.symm) (fun o ho x h1 h2 h3 h4 => ?_) ?_
  · rw [gYs_u]
    have q := gRefForm o (List.mem_of_mem_take ho) h4 (x - o.1) (by omega) h3
    rw [show o.1 + (x - o.1) = x by omega] at q
    unfold gForm at q
    split at q
    · have z := hTa x q
      rw [Nat.zero_add] at z
      exact z
    · have z := hTb (x - 5693) q
      rw [show 5693 + (x - 5693) = x by omega] at z
      exact z
  simp only [gYs_s, gYs_Cs, Nat.reduceAdd]
  have hF : gFull (1670, gTau, (fun _ => 0 : Nat → Int64)) := ⟨gObs_len.symm, rfl⟩
  have hI0 : gI2 (t0, t0) σ2 := by
    refine ⟨g_init ?_ ?_, g_init y8 y9⟩
    · exact ⟨by rw [k3 _ (by omega)]; exact x8.1, by rw [k3 _ (by omega)]; exact x8.2.1, by rw [k3 _ (by omega)]; exact x8.2.2.1, by rw [k3 _ (by omega)]; exact x8.2.2.2.1, by rw [k3 _ (by omega)]; exact x8.2.2.2.2⟩
    · obtain ⟨σa, σb, z1, z2⟩ := x9
      exact ⟨σa, σb, z1, fun x h1 h2 => by rw [k3 x (by omega)]; exact z2 x h1 h2⟩
  obtain ⟨o, ho1, ho2⟩ := hlaw L xs hL
  have hO : ∀ a, (a, 4, 0) ∈ gObs → gIn (1670, gTau, (fun _ => 0 : Nat → Int64)) a 4 0 := fun a h => (gIn_iff hF).mpr h
  have K := taL_law (Y := gYs Y (1670, gTau, fun _ => 0) 1670 11386) (by rw [gYs_Ln]; exact hlt1) (by rw [gYs_u]; exact hF) (by rw [gYs_nL]; exact hnL) (by rw [gYs_Rm]; exact hRm) (by unfold gBud; rw [gYs_Cs, gYs_Rm, hRm]; decide) heL L xs (by rw [gYs_G, hY]; exact hLe) (by rw [gYs_G, hY]; exact hxs) (by omega) (by rw [gYs_u]; exact hO 0 (List.mem_of_getElem? o0)) (by rw [gYs_u]; exact hO 5693 (List.mem_of_getElem? o835)) ((t0, t0), 0) o ho1 ho2 σ2 hI0
  rw [gYn0] at K
  exact K
