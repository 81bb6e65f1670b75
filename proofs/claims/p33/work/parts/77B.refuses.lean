/-! calls that are refused by their arguments, all of them -/
theorem andL {x y : Bool} (h : x = false) : (x && y) = false := by rw [h]; rfl
theorem andR {x y : Bool} (h : y = false) : (x && y) = false := by rw [h]; cases x <;> rfl
theorem andT {x y : Bool} (h : x = true) (h2 : y = true) : (x && y) = true := by rw [h, h2]; rfl
theorem nv0 : nV 0 = 0 := rfl
theorem n50' : (50 : Int32) = i3 50 := rfl
theorem se0 {y : Int32} (h : wi y 0 99 = false) : seB 0 y = false := by unfold seB; rw [if_pos rfl]; exact andR h
theorem se1 {y : Int32} (h : wi y 0 9 = false) : seB 1 y = false := by unfold seB; rw [if_neg (by decide), if_pos rfl]; exact andR h
theorem se2 {y : Int32} (h : wi y 0 9 = false) : seB 2 y = false := by unfold seB; rw [if_neg (by decide), if_neg (by decide), if_pos rfl]; exact andR h
theorem se3 {y : Int32} (h : wi y 0 30 = false) : seB 3 y = false := by unfold seB; rw [if_neg (by decide), if_neg (by decide), if_neg (by decide), if_pos rfl]; exact andR h
theorem se4 {y : Int32} (h : wi y 1 20 = false) : seB 4 y = false := by unfold seB; rw [if_neg (by decide), if_neg (by decide), if_neg (by decide), if_neg (by decide)]; exact andR h
theorem seN {x y : Int32} (h : wi x 0 4 = false) : seB x y = false := andL h
theorem q_about {t : gT} {k : Nat} (hk : k ≤ 12) : qAbout t (i3 k) = i3 (abN t.1.1 t.1.2 k) := by
  unfold qAbout
  rw [if_pos (show wi (i3 k) 0 12 = true from wiT (a := 0) (b := 12) (by omega) (by omega) hk), nVi (by omega)]
theorem q_told {t : gT} {c k : Nat} (hc : c < t.1.1.1 0) (hn : t.1.1.1 0 ≤ 10) (hk : k ≤ 10) : qTold t (i3 c) (i3 k) = tolV t.1.1 t.1.2 c k := by
  unfold qTold
  rw [if_pos (hcT hc hn), if_pos (show wi (i3 k) 0 10 = true from wiT (a := 0) (b := 10) (by omega) (by omega) hk), nVi (by omega), nVi (by omega)]
theorem scr64 {p : Nat} (hp : p < 100000) : (1000000 : Int64) ≤ 1000000 + (i3 p).toInt64 := by
  have e : ((i3 p).toInt64).toInt = (p : Int) := by rw [Int32.toInt_toInt64, i3t (by omega)]
  have e2 : ((1000000 : Int64) + (i3 p).toInt64).toInt = 1000000 + (p : Int) := by
    rw [Int64.toInt_add, e, show (1000000 : Int64).toInt = 1000000 from rfl]
    simp only [Int.bmod]
    omega
  rw [Int64.le_iff_toInt_le, e2, show (1000000 : Int64).toInt = 1000000 from rfl]
  omega
theorem scrA {a : Nat} {s : gS} {z : Int64} (h : 1000000 ≤ z) : aL_doScript a 1 z s = some (s, -9999002) := by
  unfold aL_doScript
  rw [if_pos (Or.inr ⟨rfl, h⟩)]
theorem scr0 {a : Nat} {s : gS} : aL_doScript a 0 0 s = some (s, -9999002) := by
  unfold aL_doScript
  rw [if_pos (Or.inl ⟨rfl, rfl⟩)]
theorem wi_m1 (b : Int) : wi (-1) 0 b = false := by
  unfold wi
  rw [show (-1 : Int32).toInt = -1 from rfl]
  exact decide_eq_false (by omega)
section RF
variable {a : Nat} {s : gS} {t : gT}
/-- the last part: a customer too many, a holiday too many -/
theorem rf_end {n : Nat} (hs : gsel a s = t) (hI : Is 89900 t.1.1) (hn : 1 ≤ t.1.1.1 0) (hN : n + 2 ≤ 80) : Ok (if (1 : Int32) = 0 then gRz .boolean 0 (gRN 80 (s, n) 0) else gLt (fun (s26 : gS × Nat) => (if i3 (t.1.1.2 0 14) < 3 then gRz .boolean 1 (gRN 80 s26 1) else gCN 80 s26 1 (aL_call a 11 0 5 5 s26.1) fun s29 x30 => (if x30 = (-9999003) then gRz .boolean 1 (gRN 80 s29 1) else gRz .boolean 0 (gRN 80 s29 0)))) fun k27 => (if i3 (t.1.1.1 0) < 10 then k27 (s, n) else gCN 80 (s, n) 1 (aL_call a 9 0 5 0 s) fun s32 x33 => (if x33 = (-9999003) then k27 s32 else gRz .boolean 0 (gRN 80 s32 0)))) (fun s' v' => s' = s ∧ v' = 1) := by
  have hc0 : hcu t.1.1 0 = true := hcT (c := 0) hn hI.1
  have h14 : t.1.1.2 0 14 ≤ 3 := (hI.cust hn).2.2.1
  have hn10 := hI.1
  refine ok_F (by decide) ?_
  refine ok_j (fun k27 h27 => ?_)
  have kk : ∀ m, m + 1 ≤ 80 → Ok (k27 (s, m)) (fun s' v' => s' = s ∧ v' = 1) := fun m hm => by
    refine ok_k0 h27 ?_
    by_cases q : t.1.1.2 0 14 < 3
    · exact ok_T (by rw [n3, i3lt (by omega) (by omega)]; exact q) (ok_b1 (ok_r (by omega) ⟨rfl, rfl⟩))
    · refine ok_F (by rw [n3, i3lt (by omega) (by omega)]; exact q) ?_
      refine ok_c (a11s hs hc0 (by decide) (by rw [nv0]; exact q)) (by omega) ?_
      refine ok_T rfl ?_
      exact ok_b1 (ok_r (by omega) ⟨rfl, rfl⟩)
  by_cases q : t.1.1.1 0 < 10
  · exact ok_T (by rw [n10, i3lt (by omega) (by omega)]; exact q) (kk n (by omega))
  · refine ok_F (by rw [n10, i3lt (by omega) (by omega)]; exact q) ?_
    refine ok_c (a9s hs rfl rfl q) (by omega) ?_
    refine ok_T rfl ?_
    exact kk _ (by omega)
theorem rf_all {p : Nat} (hs : gsel a s = t) (hI : Is 89900 t.1.1) (hn : 1 ≤ t.1.1.1 0) (hp : p < 100000) : aL_refuses a (i3 p) s = some (s, 1) := by
  have hc0 : hcu t.1.1 0 = true := hcT (c := 0) hn hI.1
  have h14 : t.1.1.2 0 14 ≤ 3 := (hI.cust hn).2.2.1
  have hn10 := hI.1
  have hab : qAbout t 0 = i3 (t.1.1.1 0) := q_about (k := 0) (by omega)
  have hho : qTold t 0 8 = i3 (t.1.1.2 0 14) := q_told (c := 0) (k := 8) hn hn10 (by omega)
  refine ok_eq ?_
  unfold aL_refuses aL_refusesB
  rw [n2, n9, n50', n99, i3r (a := p) (b := 2) (by omega) (by omega), i3r (a := p) (b := 9) (by omega) (by omega), i3r (a := p) (b := 50) (by omega) (by omega), i3r (a := p) (b := 99) (by omega) (by omega), ← n2, ← n9, ← n99]
  obtain ⟨k9, h9⟩ : ∃ k, k = p % 9 := ⟨_, rfl⟩
  obtain ⟨k50, h50⟩ : ∃ k, k = p % 50 := ⟨_, rfl⟩
  obtain ⟨k99, h99⟩ : ∃ k, k = p % 99 := ⟨_, rfl⟩
  rw [← h9, ← h50, ← h99]
  have h9' : k9 < 9 := by omega
  have h50' : k50 < 50 := by omega
  have h99' : k99 < 99 := by omega
  rcases (show p % 2 = 0 ∨ p % 2 = 1 by omega) with q | q
  · rw [q]
    clear h9 h50 h99 q
    refine ok_c (eQ hs (sp2.trans (by rw [hab]))) (by omega) ?_
    refine ok_lT rfl ?_
    refine ok_lT rfl ?_
    refine ok_lT rfl ?_
    refine ok_c (eQ hs (sp3.trans (by rw [hho]))) (by omega) ?_
    refine ok_lT rfl ?_
    refine ok_c (a0 hs (wng (by omega) (by omega))) (by omega) ?_
    refine ok_j (fun k24 h24 => ?_)
    refine ok_T rfl ?_
    refine ok_c (a2 hs (wge 13 k50 (by omega) (by omega))) (by omega) ?_
    refine ok_T rfl ?_
    refine ok_c (a3i hs (wng (by omega) (by omega))) (by omega) ?_
    refine ok_T rfl ?_
    refine ok_c (a3a hs hc0 (wge 11 k9 (by omega) (by omega))) (by omega) ?_
    refine ok_T rfl ?_
    refine ok_c (a4i hs (andL (wng (by omega) (by omega)))) (by omega) ?_
    refine ok_T rfl ?_
    refine ok_c (a4i hs (andR (wng (by omega) (by omega)))) (by omega) ?_
    refine ok_T rfl ?_
    refine ok_c (a5i hs (andL (wng (by omega) (by omega)))) (by omega) ?_
    refine ok_T rfl ?_
    refine ok_lT rfl ?_
    refine ok_c (a5i hs (andR (by decide))) (by omega) ?_
    refine ok_T rfl ?_
    refine ok_c (a5a hs (andT hc0 rfl) (wge 2 k9 (by omega) (by omega))) (by omega) ?_
    refine ok_T rfl ?_
    refine ok_c (a6i hs (andL (wng (by omega) (by omega)))) (by omega) ?_
    refine ok_T rfl ?_
    refine ok_c (a6i hs (andR (wng (by omega) (by omega)))) (by omega) ?_
    refine ok_T rfl ?_
    refine ok_c (a7i hs (wng (by omega) (by omega))) (by omega) ?_
    refine ok_T rfl ?_
    refine ok_c (a8a hs (wge 5 k9 (by omega) (by omega))) (by omega) ?_
    refine ok_T rfl ?_
    refine ok_c (dI hs (wng (by omega) (by omega))) (by omega) ?_
    refine ok_T rfl ?_
    refine ok_lT rfl ?_
    refine ok_c (dA hs hc0 (andL (by decide))) (by omega) ?_
    refine ok_T rfl ?_
    refine ok_lT rfl ?_
    refine ok_c (dA hs hc0 (andR (andL (by decide)))) (by omega) ?_
    refine ok_T rfl ?_
    refine ok_c (dA hs hc0 (andR (andR (wge 2 k9 (by omega) (by omega))))) (by omega) ?_
    refine ok_T rfl ?_
    refine ok_c (a9i hs (wng (by omega) (by omega))) (by omega) ?_
    refine ok_T rfl ?_
    refine ok_lT rfl ?_
    refine ok_c (a9a hs rfl (wng (by omega) (by omega))) (by omega) ?_
    refine ok_T rfl ?_
    refine ok_c (a10i hs (andL (wng (by omega) (by omega)))) (by omega) ?_
    refine ok_T rfl ?_
    refine ok_c (a10i hs (andR (wng (by omega) (by omega)))) (by omega) ?_
    refine ok_T rfl ?_
    refine ok_lT rfl ?_
    refine ok_c (a10a hs (andT hc0 rfl) (by decide)) (by omega) ?_
    refine ok_T rfl ?_
    refine ok_c (a11i hs (wng (by omega) (by omega))) (by omega) ?_
    refine ok_T rfl ?_
    refine ok_lT rfl ?_
    refine ok_c (a11a hs hc0 (andL (by decide))) (by omega) ?_
    refine ok_T rfl ?_
    refine ok_lT rfl ?_
    refine ok_c (a11a hs hc0 (by decide)) (by omega) ?_
    refine ok_T rfl ?_
    refine ok_c (a12i hs (andL (wng (by omega) (by omega)))) (by omega) ?_
    refine ok_T rfl ?_
    refine ok_lT rfl ?_
    refine ok_c (a12i hs (andR (wi_m1 _))) (by omega) ?_
    refine ok_T rfl ?_
    refine ok_c (aci hs (andL (wng (by omega) (by omega)))) (by omega) ?_
    refine ok_T rfl ?_
    refine ok_c (aci hs (andR (wng (by omega) (by omega)))) (by omega) ?_
    refine ok_T rfl ?_
    refine ok_c (a13i hs (andL (wng (by omega) (by omega)))) (by omega) ?_
    refine ok_T rfl ?_
    refine ok_c (a13i hs (andR (wng (by omega) (by omega)))) (by omega) ?_
    refine ok_T rfl ?_
    refine ok_lT rfl ?_
    refine ok_c (a14a hs (by decide)) (by omega) ?_
    refine ok_T rfl ?_
    refine ok_c (a14a hs (se1 (wge 10 k9 (by omega) (by omega)))) (by omega) ?_
    refine ok_T rfl ?_
    refine ok_c (a14a hs (se3 (wge 31 k9 (by omega) (by omega)))) (by omega) ?_
    refine ok_T rfl ?_
    refine ok_lT rfl ?_
    refine ok_c (a14a hs (by decide)) (by omega) ?_
    refine ok_T rfl ?_
    refine ok_c (a14a hs (seN (wge 5 k9 (by omega) (by omega)))) (by omega) ?_
    refine ok_T rfl ?_
    refine ok_lT rfl ?_
    refine ok_c (a15a hs hI.2.1 (by decide)) (by omega) ?_
    refine ok_T rfl ?_
    refine ok_c (a17i hs (wng (by omega) (by omega))) (by omega) ?_
    refine ok_T rfl ?_
    refine ok_c (a18i hs (wng (by omega) (by omega))) (by omega) ?_
    refine ok_T rfl ?_
    refine ok_lT rfl ?_
    refine ok_c (a18a hs hc0 (by decide)) (by omega) ?_
    refine ok_T rfl ?_
    refine ok_c (a19i hs (wng (by omega) (by omega))) (by omega) ?_
    refine ok_T rfl ?_
    refine ok_lT rfl ?_
    refine ok_c (a20a hs (by decide)) (by omega) ?_
    refine ok_T rfl ?_
    refine ok_lT rfl ?_
    refine ok_c (a21a hs (by decide)) (by omega) ?_
    refine ok_T rfl ?_
    refine ok_c (a22i hs (wge 2 k50 (by omega) (by omega))) (by omega) ?_
    refine ok_T rfl ?_
    refine ok_c (a23i hs (wng (by omega) (by omega))) (by omega) ?_
    refine ok_T rfl ?_
    refine ok_c (scr0) (by omega) ?_
    refine ok_T rfl ?_
    refine ok_c (scrA (scr64 hp)) (by omega) ?_
    refine ok_T rfl ?_
    refine ok_c (asi hs (wge 61 k9 (by omega) (by omega))) (by omega) ?_
    refine ok_T rfl ?_
    refine ok_k1 h24 ?_
    exact rf_end hs hI hn (by omega)
  · rw [q]
    clear h9 h50 h99 q
    refine ok_c (eQ hs (sp2.trans (by rw [hab]))) (by omega) ?_
    refine ok_lF (by decide) ?_
    refine ok_lF (by decide) ?_
    refine ok_lF (by decide) ?_
    refine ok_c (eQ hs (sp3.trans (by rw [hho]))) (by omega) ?_
    refine ok_lF (by decide) ?_
    refine ok_c (a0 hs (wge 256 k9 (by omega) (by omega))) (by omega) ?_
    refine ok_j (fun k24 h24 => ?_)
    refine ok_T rfl ?_
    refine ok_c (a2 hs (wge 13 k50 (by omega) (by omega))) (by omega) ?_
    refine ok_T rfl ?_
    refine ok_c (a3i hs (wge (t.1.1.1 0) k99 (by omega) (by omega))) (by omega) ?_
    refine ok_T rfl ?_
    refine ok_c (a3a hs hc0 (wge 11 k9 (by omega) (by omega))) (by omega) ?_
    refine ok_T rfl ?_
    refine ok_c (a4i hs (andL (wge (t.1.1.1 0) k99 (by omega) (by omega)))) (by omega) ?_
    refine ok_T rfl ?_
    refine ok_c (a4i hs (andR (wge 7 k99 (by omega) (by omega)))) (by omega) ?_
    refine ok_T rfl ?_
    refine ok_c (a5i hs (andL (wge (t.1.1.1 0) k99 (by omega) (by omega)))) (by omega) ?_
    refine ok_T rfl ?_
    refine ok_lF (by decide) ?_
    refine ok_c (a5i hs (andR (wge 3 k9 (by omega) (by omega)))) (by omega) ?_
    refine ok_T rfl ?_
    refine ok_c (a5a hs (andT hc0 rfl) (wge 2 k9 (by omega) (by omega))) (by omega) ?_
    refine ok_T rfl ?_
    refine ok_c (a6i hs (andL (wge 4 k99 (by omega) (by omega)))) (by omega) ?_
    refine ok_T rfl ?_
    refine ok_c (a6i hs (andR (wge 7 k99 (by omega) (by omega)))) (by omega) ?_
    refine ok_T rfl ?_
    refine ok_c (a7i hs (wge 4 k99 (by omega) (by omega))) (by omega) ?_
    refine ok_T rfl ?_
    refine ok_c (a8a hs (wge 5 k9 (by omega) (by omega))) (by omega) ?_
    refine ok_T rfl ?_
    refine ok_c (dI hs (wge (t.1.1.1 0) k99 (by omega) (by omega))) (by omega) ?_
    refine ok_T rfl ?_
    refine ok_lF (by decide) ?_
    refine ok_c (dA hs hc0 (andL (wge 1000 k9 (by omega) (by omega)))) (by omega) ?_
    refine ok_T rfl ?_
    refine ok_lF (by decide) ?_
    refine ok_c (dA hs hc0 (andR (andL (wge 501 k9 (by omega) (by omega))))) (by omega) ?_
    refine ok_T rfl ?_
    refine ok_c (dA hs hc0 (andR (andR (wge 2 k9 (by omega) (by omega))))) (by omega) ?_
    refine ok_T rfl ?_
    refine ok_c (a9i hs (wge 4 k99 (by omega) (by omega))) (by omega) ?_
    refine ok_T rfl ?_
    refine ok_lF (by decide) ?_
    refine ok_c (a9a hs rfl (wge 10000000 k9 (by omega) (by omega))) (by omega) ?_
    refine ok_T rfl ?_
    refine ok_c (a10i hs (andL (wge (t.1.1.1 0) k99 (by omega) (by omega)))) (by omega) ?_
    refine ok_T rfl ?_
    refine ok_c (a10i hs (andR (wge 7 k99 (by omega) (by omega)))) (by omega) ?_
    refine ok_T rfl ?_
    refine ok_lF (by decide) ?_
    refine ok_c (a10a hs (andT hc0 rfl) (wge 10 k9 (by omega) (by omega))) (by omega) ?_
    refine ok_T rfl ?_
    refine ok_c (a11i hs (wge (t.1.1.1 0) k99 (by omega) (by omega))) (by omega) ?_
    refine ok_T rfl ?_
    refine ok_lF (by decide) ?_
    refine ok_c (a11a hs hc0 (andL (wge 1000 k9 (by omega) (by omega)))) (by omega) ?_
    refine ok_T rfl ?_
    refine ok_lF (by decide) ?_
    refine ok_c (a11a hs hc0 (andR (wge 1000 k9 (by omega) (by omega)))) (by omega) ?_
    refine ok_T rfl ?_
    refine ok_c (a12i hs (andL (wge (t.1.1.1 0) k99 (by omega) (by omega)))) (by omega) ?_
    refine ok_T rfl ?_
    refine ok_lF (by decide) ?_
    refine ok_c (a12i hs (andR (wge (t.1.1.2 0 14) k9 (by omega) (by rw [nv0]; omega)))) (by omega) ?_
    refine ok_T rfl ?_
    refine ok_c (aci hs (andL (wge 4 k99 (by omega) (by omega)))) (by omega) ?_
    refine ok_T rfl ?_
    refine ok_c (aci hs (andR (wge 7 k99 (by omega) (by omega)))) (by omega) ?_
    refine ok_T rfl ?_
    refine ok_c (a13i hs (andL (wge 4 k99 (by omega) (by omega)))) (by omega) ?_
    refine ok_T rfl ?_
    refine ok_c (a13i hs (andR (wge 4 k99 (by omega) (by omega)))) (by omega) ?_
    refine ok_T rfl ?_
    refine ok_lF (by decide) ?_
    refine ok_c (a14a hs (se0 (wge 100 k9 (by omega) (by omega)))) (by omega) ?_
    refine ok_T rfl ?_
    refine ok_c (a14a hs (se2 (wge 10 k9 (by omega) (by omega)))) (by omega) ?_
    refine ok_T rfl ?_
    refine ok_c (a14a hs (se3 (wge 31 k9 (by omega) (by omega)))) (by omega) ?_
    refine ok_T rfl ?_
    refine ok_lF (by decide) ?_
    refine ok_c (a14a hs (se4 (wge 21 k9 (by omega) (by omega)))) (by omega) ?_
    refine ok_T rfl ?_
    refine ok_c (a14a hs (seN (wge 5 k9 (by omega) (by omega)))) (by omega) ?_
    refine ok_T rfl ?_
    refine ok_lF (by decide) ?_
    refine ok_c (a15a hs hI.2.1 (wge 61 k9 (by omega) (by omega))) (by omega) ?_
    refine ok_T rfl ?_
    refine ok_c (a17i hs (wge (t.1.1.1 0) k99 (by omega) (by omega))) (by omega) ?_
    refine ok_T rfl ?_
    refine ok_c (a18i hs (wge (t.1.1.1 0) k99 (by omega) (by omega))) (by omega) ?_
    refine ok_T rfl ?_
    refine ok_lF (by decide) ?_
    refine ok_c (a18a hs hc0 (wge 201 k9 (by omega) (by omega))) (by omega) ?_
    refine ok_T rfl ?_
    refine ok_c (a19i hs (wge (t.1.1.1 0) k99 (by omega) (by omega))) (by omega) ?_
    refine ok_T rfl ?_
    refine ok_lF (by decide) ?_
    refine ok_c (a20a hs (wge 61 k9 (by omega) (by omega))) (by omega) ?_
    refine ok_T rfl ?_
    refine ok_lF (by decide) ?_
    refine ok_c (a21a hs (wge 31 k9 (by omega) (by omega))) (by omega) ?_
    refine ok_T rfl ?_
    refine ok_c (a22i hs (wge 2 k50 (by omega) (by omega))) (by omega) ?_
    refine ok_T rfl ?_
    refine ok_c (a23i hs (wng (by omega) (by omega))) (by omega) ?_
    refine ok_T rfl ?_
    refine ok_c (scr0) (by omega) ?_
    refine ok_T rfl ?_
    refine ok_c (scrA (scr64 hp)) (by omega) ?_
    refine ok_T rfl ?_
    refine ok_c (asi hs (wge 61 k9 (by omega) (by omega))) (by omega) ?_
    refine ok_T rfl ?_
    refine ok_k1 h24 ?_
    exact rf_end hs hI hn (by omega)
end RF
