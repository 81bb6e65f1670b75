def orS (S : gB) (a b c d : Nat) : gB := sH (sH (sH (sH S 19 d) 18 c) 17 b) 16 a
theorem orS_m (S : gB) (a b c d : Nat) : sH (sH (sH (sH S 16 a) 17 b) 18 c) 19 d = orS S a b c d := by
  unfold orS sH
  congr 1
  funext i
  show (if i = 19 then d else if i = 18 then c else if i = 17 then b else if i = 16 then a else S.1 i) = (if i = 16 then a else if i = 17 then b else if i = 18 then c else if i = 19 then d else S.1 i)
  by_cases h1 : i = 16
  · subst h1
    rfl
  · by_cases h2 : i = 17
    · subst h2
      rfl
    · by_cases h3 : i = 18
      · subst h3
        rfl
      · rw [if_neg h3, if_neg h2, if_neg h1, if_neg h1, if_neg h2, if_neg h3]
theorem take_s {b v t f : Nat} {m : gM} (hv : v < 256) (ht : t < 4) : fX0_takeOrder_L4 b (f + 1) (i3 v) (i3 (t + 1) + (-1)) m = fX0_takeOrder_L4 b f (i3 (v / 4)) (i3 t + (-1)) (upd m (b + 49 + t) (i3 (v % 4))) := by
  have e5 : i3 (t + 1) + (-1) = i3 t := by rw [m1n, i3an (by omega)]; rfl
  rw [e5]
  conv => lhs; unfold fX0_takeOrder_L4
  rw [if_neg (i3n (by omega)), n4, i3r (by omega) (by omega), gWrI ht (by omega), gLtI, i3d (by omega) (by omega), gLtI]
theorem c_take {b v hh : Nat} {S D : gB} {m : gM} (h : Cx b S D hh m) (hv : v < 256) : ∃ m', fX0_takeOrder b (i3 v) m = some m' ∧ Cx b (orS S (v / 64) (v / 16 % 4) (v / 4 % 4) (v % 4)) D hh m' ∧ Fr b 308 m m' := by
  have h1 := h.SH (i := 19) (v := v % 4) (y := b + 49 + 3) (by omega)
  have h2 := h1.SH (i := 18) (v := v / 4 % 4) (y := b + 49 + 2) (by omega)
  have h3 := h2.SH (i := 17) (v := v / 4 / 4 % 4) (y := b + 49 + 1) (by omega)
  have h4 := h3.SH (i := 16) (v := v / 4 / 4 / 4 % 4) (y := b + 49 + 0) (by omega)
  have e : fX0_takeOrder b (i3 v) m = some (upd (upd (upd (upd m (b + 49 + 3) (i3 (v % 4))) (b + 49 + 2) (i3 (v / 4 % 4))) (b + 49 + 1) (i3 (v / 4 / 4 % 4))) (b + 49 + 0) (i3 (v / 4 / 4 / 4 % 4))) := by
    unfold fX0_takeOrder
    rw [show gFU = 4996 + 3 + 1 from rfl, show (3 : Int32) = i3 (3 + 1) + (-1) from by decide, take_s hv (by omega), show 4996 + 3 = 4996 + 2 + 1 from rfl, show 3 = 2 + 1 from rfl, take_s (by omega) (by omega), show 4996 + 2 = 4996 + 1 + 1 from rfl, show 2 = 1 + 1 from rfl, take_s (by omega) (by omega), show 4996 + 1 = 4996 + 0 + 1 from rfl, take_s (t := 0) (by omega) (by omega)]
    unfold fX0_takeOrder_L4
    rfl
  refine ⟨_, e, ?_, (((Fr.up (by omega) (by omega)).tr (Fr.up (by omega) (by omega))).tr (Fr.up (by omega) (by omega))).tr (Fr.up (by omega) (by omega))⟩
  rw [show v / 64 = v / 4 / 4 / 4 % 4 from by omega, show v / 16 % 4 = v / 4 / 4 % 4 from by omega]
  exact h4
theorem c_onum {b B hh : Nat} {S D : gB} {m : gM} (h : Cx b S D hh m) (hI : Is B S) : fX0_orderAsNumber b m = some (m, i3 (1000 * S.1 16 + 100 * S.1 17 + 10 * S.1 18 + S.1 19)) := by
  have L : ∀ (f k acc : Nat), k < 4 → fX0_orderAsNumber_L4 b (f + 1) (i3 acc) (i3 k) m = fX0_orderAsNumber_L4 b f (i3 (acc * 10 + S.1 (16 + k))) (i3 (k + 1)) m := by
    intro f k acc hk
    conv => lhs; unfold fX0_orderAsNumber_L4
    rw [n4, iLe (by omega) (by omega), if_neg (by omega), h.rO hk, n10, i3m, i3a, gLtI, n1, i3a, gLtI]
  unfold fX0_orderAsNumber
  rw [show gFU = 4995 + 1 + 1 + 1 + 1 + 1 from rfl, show fX0_orderAsNumber_L4 b (4995 + 1 + 1 + 1 + 1 + 1) 0 0 m = fX0_orderAsNumber_L4 b (4995 + 1 + 1 + 1 + 1 + 1) (i3 0) (i3 0) m from rfl, L _ 0 _ (by omega), L _ (0 + 1) _ (by omega), L _ (0 + 1 + 1) _ (by omega), L _ (0 + 1 + 1 + 1) _ (by omega)]
  unfold fX0_orderAsNumber_L4
  rw [if_pos (by decide)]
  congr 3
  show (((0 * 10 + S.1 16) * 10 + S.1 17) * 10 + S.1 18) * 10 + S.1 19 = _
  omega
theorem orS_iv {B a b c d : Nat} {S D : gB} (h : Iv B S D) (ho : okO a b c d = true) : Iv B (orS S a b c d) D := by
  obtain ⟨⟨h0, h1, h2, h3, h4, h5⟩, h6⟩ := h
  unfold okO at ho
  simp only [Bool.and_eq_true, decide_eq_true_eq, bne_iff_ne] at ho
  obtain ⟨⟨⟨⟨⟨⟨⟨⟨⟨a1, a2⟩, a3⟩, a4⟩, a5⟩, a6⟩, a7⟩, a8⟩, a9⟩, a10⟩ := ho
  exact ⟨⟨h0, h1, h2, ⟨a1, a2, a3, a4, a5, a6, a7, a8, a9, a10⟩, fun i hi => by rw [show (orS S a b c d).1 (20 + i) = S.1 (20 + i) from (up_n (by omega)).trans ((up_n (by omega)).trans ((up_n (by omega)).trans (up_n (by omega))))]; exact h4 i hi, h5⟩, h6⟩
def orD (S : gB) (d : Nat) : gB := orS S (d / 1000) (d / 100 % 10) (d / 10 % 10) (d % 10)
def crd (S D : gB) (p d : Nat) : Nat := sm (fun c => (daysZ p (orD S d, D)).2.2 c 8) (S.1 0)
def bst (S D : gB) (p : Nat) : List Nat → Option (Nat × Nat) → Option (Nat × Nat)
  | [], z => z
  | d :: ds, none => bst S D p ds (some (d, crd S D p d))
  | d :: ds, some (e, l) => bst S D p ds (if l ≤ crd S D p d then some (e, l) else some (d, crd S D p d))
def enc : Option (Nat × Nat) → Int32 × Int32
  | none => (-1, 0)
  | some (e, l) => (i3 e, i3 l)
theorem i3nm {e : Nat} (he : e < 1000000) : ¬ i3 e = -1 := by
  intro q
  have := congrArg Int32.toInt q
  rw [i3t (by omega)] at this
  have h2 : (-1 : Int32).toInt = -1 := by decide
  omega
theorem crd_le {B p d : Nat} {S D : gB} (hI : Iv B S D) (ho : okR d = true) : crd S D p d ≤ 300 ∧ (daysZ p (orD S d, D)).1.1 0 = S.1 0 ∧ Iv (B + p) (daysZ p (orD S d, D)).1 (daysZ p (orD S d, D)).2 := by
  have h0 := orS_iv hI ho
  have h1 := (h0.days p).1
  have h2 := daysN h0 p
  have h3 : (orS S (d / 1000) (d / 100 % 10) (d / 10 % 10) (d % 10)).1 0 = S.1 0 := rfl
  refine ⟨?_, h2.trans h3, h1⟩
  have h4 := sm_le (f := fun c => (daysZ p (orD S d, D)).2.2 c 8) (b := 30) (n := S.1 0) (fun i hi => h1.2.1 i (by have e : (daysZ p (orD S d, D)).1.1 0 = S.1 0 := h2.trans h3; show i < (daysZ p (orD S d, D)).1.1 0; omega))
  have h5 := hI.1.1
  unfold crd
  omega
theorem decO_d {v : Nat} (hv : v < 256) : decO v / 1000 = v / 64 ∧ decO v / 100 % 10 = v / 16 % 4 ∧ decO v / 10 % 10 = v / 4 % 4 ∧ decO v % 10 = v % 4 ∧ decO v < 4000 := by
  have h : (List.range 256).all (fun v => decide (decO v / 1000 = v / 64 ∧ decO v / 100 % 10 = v / 16 % 4 ∧ decO v / 10 % 10 = v / 4 % 4 ∧ decO v % 10 = v % 4 ∧ decO v < 4000)) = true := by decide +kernel
  exact of_decide_eq_true (List.all_eq_true.mp h v (List.mem_range.mpr hv))
theorem decO_s {v : Nat} (hv : v < 256) : 1000 * (decO v / 1000) + 100 * (decO v / 100 % 10) + 10 * (decO v / 10 % 10) + decO v % 10 = decO v := by
  have h : (List.range 256).all (fun v => decide (1000 * (decO v / 1000) + 100 * (decO v / 100 % 10) + 10 * (decO v / 10 % 10) + decO v % 10 = decO v)) = true := by decide +kernel
  exact of_decide_eq_true (List.all_eq_true.mp h v (List.mem_range.mpr hv))
theorem c_best {a B p : Nat} {S D : gB} (hI : Iv B S D) (hB : B + 1000 < 1000000) (hp : p ≤ 30) : ∀ (f j v : Nat) (z : Option (Nat × Nat)) (m : gM), v + j = 256 → j < f → (∀ e l, z = some (e, l) → e < 4000 ∧ l ≤ 300) → Cb (a + 128) S D m → ∃ m', fX5_bestRound_L17 a (i3 p) f (enc z).1 (enc z).2 (i3 v) m = some (m', 0, (enc (bst S D p (((List.range' v j).filter okC).map decO) z)).1) ∧ Fr (a + 436) 308 m m' := by
  have hn := hI.1.1
  intro f
  induction f with
  | zero => intro j v z m h1 h2; omega
  | succ f ih =>
    intro j v z m h1 h2 hz h
    unfold fX5_bestRound_L17
    rw [n256, iLe (by omega) (by omega)]
    cases j with
    | zero =>
      rw [if_pos (by omega)]
      exact ⟨m, rfl, Fr.rf⟩
    | succ j =>
      have hv : v < 256 := by omega
      rw [if_neg (by omega), c_tell hv, gClI, gLtI, iB0, List.range'_succ]
      cases ho : okC v with
      | false =>
        rw [if_neg (by decide), List.filter_cons_of_neg (by rw [ho]; decide)]
        dsimp only
        rw [gLtI, n1, i3a]
        exact ih j (v + 1) z m (by omega) (by omega) hz h
      | true =>
        obtain ⟨d1, d2, d3, d4, d5⟩ := decO_d hv
        have hoR : okR (decO v) = true := by
          unfold okR
          rw [d1, d2, d3, d4]
          exact ho
        obtain ⟨q1, q2, q3⟩ := crd_le (p := p) hI hoR
        obtain ⟨m1, s1, s2, s3⟩ := c_copy (b := a + 436) h hI.1 (by omega)
        obtain ⟨m2, t1, t2, t3⟩ := c_take s2 hv
        rw [← d1, ← d2, ← d3, ← d4] at t2
        have t4 : Cb (a + 436) (orD S (decO v)) D m2 := t2
        have hI2 : Iv B (orD S (decO v)) D := orS_iv hI hoR
        obtain ⟨m3, u1, u2, u3⟩ := c_days (p := p) t4 hI2 (by omega) (by omega)
        have fr : Fr (a + 436) 308 m m3 := (s3.tr t3).tr u3
        have h3 : Cb (a + 128) S D m3 := Cx.fr h hn fr (by omega)
        have e2 : fX0_sumOf (a + 436) 2 m3 = some (m3, i3 (crd S D p (decO v))) := by
          rw [(c_sums u2 q3).1]
          unfold crd
          rw [q2]
        have en : fX0_orderAsNumber (a + 436) m3 = some (m3, i3 (decO v)) := by
          rw [c_onum u2 q3.1]
          have k : ∀ i, i < 4 → (daysZ p (orD S (decO v), D)).1.1 (16 + i) = (orD S (decO v)).1 (16 + i) := by
            intro i hi
            have L : ∀ k, (daysZ k (orD S (decO v), D)).1.1 (16 + i) = (orD S (decO v)).1 (16 + i) := by
              intro k
              induction k with
              | zero => rfl
              | succ k ihk =>
                rw [daysZ_S]
                exact (up_n (by omega)).trans ihk
            exact L p
          have k0 : (daysZ p (orD S (decO v), D)).1.1 16 = decO v / 1000 := k 0 (by omega)
          have k1 : (daysZ p (orD S (decO v), D)).1.1 17 = decO v / 100 % 10 := k 1 (by omega)
          have k2 : (daysZ p (orD S (decO v), D)).1.1 18 = decO v / 10 % 10 := k 2 (by omega)
          have k3 : (daysZ p (orD S (decO v), D)).1.1 19 = decO v % 10 := k 3 (by omega)
          rw [k0, k1, k2, k3]
          rw [decO_s hv]
        rw [if_pos rfl, List.filter_cons_of_pos ho, List.map_cons, s1, gCvI, t1, gCvI, u1, gClI, e2, gClI, en, gClI]
        cases z with
        | none =>
          obtain ⟨m4, v1, v2⟩ := ih j (v + 1) (some (decO v, crd S D p (decO v))) m3 (by omega) (by omega) (fun e l q => by cases q; exact ⟨d5, q1⟩) h3
          refine ⟨m4, ?_, fr.tr v2⟩
          rw [if_pos (show (enc none).1 = -1 from rfl)]
          dsimp only
          rw [gLtI, n1, i3a]
          exact v1
        | some w =>
          obtain ⟨e, l⟩ := w
          obtain ⟨z1, z2⟩ := hz e l rfl
          rw [if_neg (show ¬ (enc (some (e, l))).1 = -1 from i3nm (by omega)), show (enc (some (e, l))).2 = i3 l from rfl, iLe (by omega) (by omega)]
          have eb : ∀ ds, bst S D p (decO v :: ds) (some (e, l)) = bst S D p ds (if l ≤ crd S D p (decO v) then some (e, l) else some (decO v, crd S D p (decO v))) := fun _ => rfl
          rw [eb]
          by_cases c : l ≤ crd S D p (decO v)
          · obtain ⟨m4, v1, v2⟩ := ih j (v + 1) (some (e, l)) m3 (by omega) (by omega) hz h3
            refine ⟨m4, ?_, fr.tr v2⟩
            rw [if_pos c, if_pos c]
            dsimp only
            rw [gLtI, n1, i3a]
            exact v1
          · obtain ⟨m4, v1, v2⟩ := ih j (v + 1) (some (decO v, crd S D p (decO v))) m3 (by omega) (by omega) (fun e l q => by cases q; exact ⟨d5, q1⟩) h3
            refine ⟨m4, ?_, fr.tr v2⟩
            rw [if_neg c, if_neg c]
            dsimp only
            rw [gLtI, n1, i3a]
            exact v1
