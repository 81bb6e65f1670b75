/-! the text: numbers -/
def nR (n : Nat) (f : Nat → Nat) (p : Nat) : Nat → Nat
  | 0 => 0
  | q + 1 => (sg n f p - 48) * 10 ^ q + nR n f (p + 1) q
theorem c_numL {n p q : Nat} {f : Nat → Nat} {m : gM} (h : Tc n f m) (hp : p < 1000) (hq : q < 1000) : ∀ (g k i v : Nat), i + k = q → k < g → (∀ y, y < k → 48 ≤ sg n f (p + i + y)) → fX4_numberAt_L5 (i3 p) (i3 q) g (i3 v) (i3 i) m = some (m, i3 (v * 10 ^ k + nR n f (p + i) k)) := by
  intro g
  induction g with
  | zero => intro k i v h1 h2; omega
  | succ g ih =>
    intro k i v h1 h2 h3
    unfold fX4_numberAt_L5
    rw [iLe (by omega) (by omega)]
    cases k with
    | zero =>
      rw [if_pos (by omega), Nat.pow_zero, Nat.mul_one]
      rfl
    | succ k =>
      have d48 := h3 0 (by omega)
      rw [Nat.add_zero] at d48
      rw [if_neg (by omega), i3a, c_sign h (by omega), gClI, gLtI, n10, i3m, i3a, show (48 : Int32) = i3 48 from rfl, i3s (by omega), gLtI, n1, i3a, ih k (i + 1) _ (by omega) (by omega) (fun y hy => by
        have := h3 (y + 1) (by omega)
        rw [show p + (i + 1) + y = p + i + (y + 1) from by omega]
        exact this)]
      congr 3
      show (v * 10 + sg n f (p + i) - 48) * 10 ^ k + nR n f (p + (i + 1)) k = v * 10 ^ (k + 1) + ((sg n f (p + i) - 48) * 10 ^ k + nR n f (p + i + 1) k)
      rw [show v * 10 + sg n f (p + i) - 48 = v * 10 + (sg n f (p + i) - 48) from by omega, Nat.add_mul, Nat.pow_succ, Nat.mul_assoc, Nat.mul_comm 10, show p + (i + 1) = p + i + 1 from by omega, Nat.add_assoc]
theorem c_nuq {n p q : Nat} {f : Nat → Nat} {m : gM} (h : Tc n f m) (hp : p < 1000) (hq : q < 1000) (hd : ∀ y, y < q → 48 ≤ sg n f (p + y)) : fX4_numberAt (i3 p) (i3 q) m = some (m, i3 (nR n f p q)) := by
  have e := c_numL h hp hq gFU q 0 0 (by omega) (by show q < 5000; omega) (fun y hy => by rw [Nat.add_zero]; exact hd y hy)
  rw [Nat.zero_mul, Nat.zero_add, Nat.add_zero] at e
  exact e
/-- the reference's spot moves alone -/
def Sp (e : Nat) (m m' : gM) : Prop := m' (5693 + 9) = i3 e ∧ ∀ x, x ≠ 5702 → m' x = m x
theorem Sp.rf {e : Nat} {m : gM} (h : m (5693 + 9) = i3 e) : Sp e m m := ⟨h, fun _ _ => rfl⟩
theorem Sp.tr {e e' : Nat} {m m1 m2 : gM} (h1 : Sp e m m1) (h2 : Sp e' m1 m2) : Sp e' m m2 := ⟨h2.1, fun x hx => (h2.2 x hx).trans (h1.2 x hx)⟩
theorem Sp.u {e : Nat} {m : gM} : Sp e m (upd m (5693 + 9) (i3 e)) := ⟨upd_s, fun _ hx => upd_n hx⟩
theorem Tm.sp {n e : Nat} {f : Nat → Nat} {m m' : gM} (h : Tm n f m) (hs : Sp e m m') : Tm n f m' := by
  have hn := h.2.1
  refine ⟨by rw [hs.2 _ (by omega)]; exact h.1, hn, fun i hi => ⟨?_, (h.2.2 i hi).2⟩⟩
  rw [hs.2 _ (by omega)]
  exact (h.2.2 i hi).1
theorem Tm.sl {n : Nat} {f : Nat → Nat} {m : gM} (h : Tm n f m) (p : Nat) : sg n f p < 256 := by
  unfold sg
  split
  · exact (h.2.2 p (by assumption)).2
  · omega
theorem fg_e {x lo hi v u : Int32} {g : Nat} {m : gM} (hx : ¬ x = -1) (hu : u ≤ 0) : fX6_figures_L6 x lo hi (g + 1) v u m = some (m, v) := by
  unfold fX6_figures_L6
  rw [if_pos hu, if_neg hx]
theorem fg_nL {lo hi v u : Int32} {g : Nat} {m : gM} : fX6_figures_L6 (-1) lo hi (g + 1) v u m = some (m, -1) := by
  unfold fX6_figures_L6
  by_cases hu : u ≤ 0
  · rw [if_pos hu, if_pos rfl]
  · rw [if_neg hu, if_pos rfl, if_pos rfl]
theorem fg_no {lo hi u : Int32} {m : gM} : fX6_figures (-1) u lo hi m = some (m, -1) := by
  unfold fX6_figures
  exact fg_nL (g := 4999)
def dgt (n : Nat) (f : Nat → Nat) (p : Nat) : Bool := decide (48 ≤ sg n f p ∧ sg n f p ≤ 57)
theorem fg_s {n p g : Nat} {f : Nat → Nat} {m : gM} {x lo hi v u : Int32} (h : Tm n f m) (hp : m (5693 + 9) = i3 p) (hp2 : p < 1000000) (hx : ¬ x = -1) (hu : ¬ u ≤ 0) : fX6_figures_L6 x lo hi (g + 1) v u m = (if dgt n f p = true then (if hi < v + i3 (sg n f p - 48) * u then some (m, -1) else if lo ≤ v + i3 (sg n f p - 48) * u + u - 1 then fX6_figures_L6 x lo hi g (v + i3 (sg n f p - 48) * u) (u / 10) (upd m (5693 + 9) (i3 (p + 1))) else some (m, -1)) else some (m, -1)) := by
  have hn := h.2.1
  have hm : ∀ q : Int32, fX6_in q.toInt64 0 9 m = some (m, bI (wi q 0 9)) := fun q => by rw [m_inI]; rfl
  conv => lhs; unfold fX6_figures_L6
  rw [if_neg hu, if_neg hx, hp, gLtI, h.1, gLtI, gLtI, iLe (by omega) (by omega)]
  by_cases q : n ≤ p
  · have e : dgt n f p = false := by
      unfold dgt sg
      rw [if_neg (by omega)]
      rfl
    rw [if_pos q]
    dsimp only
    rw [gLtI, hm, gClI, e, show wi (-1) 0 9 = false from by decide, if_pos bIf, if_neg (by decide)]
  · obtain ⟨h1, h2⟩ := h.2.2 p (by omega)
    have es : sg n f p = f p := if_pos (by omega)
    rw [if_neg q, gLtI, gRdI (by omega) (by omega), h1]
    dsimp only
    rw [gLtI, hm, gClI]
    by_cases c : 48 ≤ f p ∧ f p ≤ 57
    · have e : dgt n f p = true := by
        unfold dgt
        rw [es]
        exact decide_eq_true c
      have e2 : i3 (f p) - 48 = i3 (sg n f p - 48) := by rw [es]; exact i3s c.1
      rw [e, e2, if_pos rfl, show wi (i3 (sg n f p - 48)) 0 9 = true from wiT (a := 0) (b := 9) (by omega) (by omega) (by omega), if_neg (by decide), gLtI, gLtI, gLtI, hp, show i3 p + 1 = i3 (p + 1) from i3a p 1]
    · have e : dgt n f p = false := by
        unfold dgt
        rw [es]
        exact decide_eq_false c
      have e3 : wi (i3 (f p) - 48) 0 9 = false := by
        unfold wi
        refine decide_eq_false (fun w => c ?_)
        have e4 : (i3 (f p) - 48).toInt = (f p : Int) - 48 := by
          rw [Int32.toInt_sub, i3t (by omega), show (48 : Int32).toInt = 48 from by decide, Int.bmod_eq_of_le (by omega) (by omega)]
        rw [e4] at w
        omega
      rw [e, e3, if_pos bIf, if_neg (by decide)]
theorem i3ne {x : Nat} (hx : x < 1000000000) : ¬ i3 x = -1 := by
  intro e
  have h := congrArg Int32.toInt e
  rw [i3t (by omega), show (-1 : Int32).toInt = -1 from by decide] at h
  omega
theorem i3u {u : Nat} (h1 : 1 ≤ u) (h2 : u < 1000000000) : ¬ i3 u ≤ 0 := by
  rw [n0, i3le (by omega) (by omega)]
  omega
theorem al57 {n p : Nat} {f : Nat → Nat} : al n f 57 p = dgt n f p := by
  unfold al dgt
  rw [if_neg (by decide), if_neg (by decide)]
theorem alk {n p h : Nat} {f : Nat → Nat} (hh : h ≤ 9) : al n f (48 + h) p = decide (48 ≤ sg n f p ∧ sg n f p ≤ 48 + h) := by
  unfold al
  rw [if_neg (by omega), if_neg (by omega)]
/-- one figure -/
theorem fg1 {n p x h : Nat} {f : Nat → Nat} {m : gM} (hT : Tm n f m) (hp : m (5693 + 9) = i3 p) (hp2 : p < 1000000) (hx : x < 100000000) (hh : h ≤ 9) : (al n f (48 + h) p = true → ∃ m', fX6_figures (i3 x) 1 0 (i3 h) m = some (m', i3 (sg n f p - 48)) ∧ Sp (p + 1) m m') ∧ (al n f (48 + h) p = false → fX6_figures (i3 x) 1 0 (i3 h) m = some (m, -1)) := by
  have e := fg_s (g := 4999) (lo := 0) (hi := i3 h) (v := 0) (u := 1) hT hp hp2 (i3ne (x := x) (by omega)) (by decide)
  have e0 : ∀ y, (0 : Int32) + i3 y * 1 = i3 y := fun y => by
    rw [n0, n1, i3m, i3a, Nat.mul_one, Nat.zero_add]
  rw [e0] at e
  have e' : fX6_figures (i3 x) 1 0 (i3 h) m = _ := e
  rw [alk hh]
  refine ⟨fun w => ?_, fun w => ?_⟩
  · have w' := of_decide_eq_true w
    have e1 : dgt n f p = true := decide_eq_true ⟨w'.1, by omega⟩
    have e2 : (0 : Int32) ≤ i3 (sg n f p - 48) + 1 - 1 := by
      rw [n1, i3a, i3s (by omega), n0, i3le (by omega) (by omega)]
      omega
    rw [e1, if_pos rfl, iLt (by omega) (by omega), if_neg (by omega), if_pos e2] at e'
    exact ⟨_, e'.trans (fg_e (g := 4998) (i3ne (by omega)) (by decide)), Sp.u⟩
  · have w' := of_decide_eq_false w
    cases q : dgt n f p with
    | false =>
      rw [q, if_neg (by decide)] at e'
      exact e'
    | true =>
      have q' := of_decide_eq_true q
      rw [q, if_pos rfl, iLt (by omega) (by omega), if_pos (by omega)] at e'
      exact e'
/-- free figures -/
def dgs (q : Nat) : List Nat := List.replicate q 57
theorem fgqL {n x hi : Nat} {f : Nat → Nat} (hx : x < 100000000) (hhi : hi < 100000000) : ∀ (g q v p : Nat) (m : gM), Tm n f m → m (5693 + 9) = i3 p → p + q < 1000000 → q < g → v + 10 ^ q ≤ hi + 1 → (fe n f (dgs q) p = none → ∃ m', fX6_figures_L6 (i3 x) 0 (i3 hi) g (i3 v) (i3 (10 ^ q / 10)) m = some (m', i3 (v + nR n f p q)) ∧ Sp (p + q) m m') ∧ (∀ e, fe n f (dgs q) p = some e → ∃ m', fX6_figures_L6 (i3 x) 0 (i3 hi) g (i3 v) (i3 (10 ^ q / 10)) m = some (m', -1) ∧ Sp e m m') := by
  intro g
  induction g with
  | zero => intro q v p m h1 h2 h3 h4; omega
  | succ g ih =>
    intro q v p m hT hp h3 h4 h5
    cases q with
    | zero =>
      refine ⟨fun _ => ⟨m, ?_, Sp.rf hp⟩, fun e he => ?_⟩
      · rw [show 10 ^ 0 / 10 = 0 from rfl, fg_e (i3ne (by omega)) (by decide)]
        rfl
      · cases he
    | succ q =>
      have hT1 : 1 ≤ 10 ^ q := Nat.one_le_pow _ _ (by decide)
      have e1 : 10 ^ (q + 1) / 10 = 10 ^ q := by rw [Nat.pow_succ, Nat.mul_div_cancel _ (by decide)]
      rw [Nat.pow_succ] at h5
      rw [e1]
      have es := fg_s (g := g) (lo := 0) (hi := i3 hi) (v := i3 v) (u := i3 (10 ^ q)) hT hp (by omega) (i3ne (x := x) (by omega)) (i3u hT1 (by omega))
      have ef : fe n f (dgs (q + 1)) p = if dgt n f p = true then fe n f (dgs q) (p + 1) else some p := by
        show (if al n f 57 p = true then fe n f (dgs q) (p + 1) else some p) = _
        rw [al57]
      rw [ef]
      cases c : dgt n f p with
      | false =>
        rw [c, if_neg (by decide)] at es
        refine ⟨fun w => (by cases w), fun e he => ?_⟩
        have he2 : p = e := by injection he
        subst he2
        exact ⟨m, es, Sp.rf hp⟩
      | true =>
        have c' := of_decide_eq_true c
        have hd : (sg n f p - 48) * 10 ^ q ≤ 9 * 10 ^ q := Nat.mul_le_mul_right _ (by omega)
        have e2 : (0 : Int32) ≤ i3 (v + (sg n f p - 48) * 10 ^ q) + i3 (10 ^ q) - 1 := by
          rw [n1, i3a, i3s (by omega), n0, i3le (by omega) (by omega)]
          omega
        rw [c, if_pos rfl, i3m, i3a, iLt (by omega) (by omega), if_neg (by omega), if_pos e2, n10, i3d (by omega) (by omega)] at es
        have sp : Sp (p + 1) m (upd m (5693 + 9) (i3 (p + 1))) := Sp.u
        obtain ⟨k1, k2⟩ := ih q (v + (sg n f p - 48) * 10 ^ q) (p + 1) _ (hT.sp sp) sp.1 (by omega) (by omega) (by omega)
        rw [if_pos rfl]
        refine ⟨fun w => ?_, fun e he => ?_⟩
        · obtain ⟨m', a1, a2⟩ := k1 w
          refine ⟨m', ?_, ?_⟩
          · rw [es, a1, Nat.add_assoc]
            rfl
          · rw [show p + (q + 1) = p + 1 + q from by omega]
            exact sp.tr a2
        · obtain ⟨m', a1, a2⟩ := k2 e he
          exact ⟨m', es.trans a1, sp.tr a2⟩
theorem fgq {n x p : Nat} {f : Nat → Nat} {m : gM} (q : Nat) (hq : q ≤ 8) (u hi : Nat) (hu : u = 10 ^ q / 10) (hhi : hi + 1 = 10 ^ q) (hT : Tm n f m) (hp : m (5693 + 9) = i3 p) (hp2 : p < 1000) (hx : x < 100000000) : (fe n f (dgs q) p = none → ∃ m', fX6_figures (i3 x) (i3 u) 0 (i3 hi) m = some (m', i3 (nR n f p q)) ∧ Sp (p + q) m m') ∧ (∀ e, fe n f (dgs q) p = some e → ∃ m', fX6_figures (i3 x) (i3 u) 0 (i3 hi) m = some (m', -1) ∧ Sp e m m') := by
  subst hu
  have h8 : 10 ^ q ≤ 10 ^ 8 := Nat.pow_le_pow_right (by decide) hq
  have k := fgqL (n := n) (f := f) (hi := hi) hx (by omega) gFU q 0 p m hT hp (by omega) (by show q < 5000; omega) (by omega)
  rw [Nat.zero_add] at k
  exact k
/-- how many days: 01 to 60 -/
theorem fgd {n p : Nat} {f : Nat → Nat} {m : gM} (hT : Tm n f m) (hp : m (5693 + 9) = i3 p) (hp2 : p < 1000) : (fe n f [54, 100] p = none → 1 ≤ nR n f p 2 ∧ nR n f p 2 ≤ 60 ∧ ∃ m', fX6_figures 0 10 1 60 m = some (m', i3 (nR n f p 2)) ∧ Sp (p + 2) m m') ∧ (∀ e, fe n f [54, 100] p = some e → ∃ m', fX6_figures 0 10 1 60 m = some (m', -1) ∧ Sp e m m') := by
  have e := fg_s (g := 4999) (x := 0) (lo := 1) (hi := 60) (v := 0) (u := 10) hT hp (by omega) (by decide) (by decide)
  have e' : fX6_figures 0 10 1 60 m = _ := e
  have hs1 := hT.sl (p + 1)
  have sp : Sp (p + 1) m (upd m (5693 + 9) (i3 (p + 1))) := Sp.u
  have e2 := fg_s (g := 4998) (x := 0) (lo := 1) (hi := 60) (v := (0 : Int32) + i3 (sg n f p - 48) * 10) (u := 10 / 10) (hT.sp sp) sp.1 (by omega) (by decide) (by decide)
  have a54 : al n f 54 p = decide (48 ≤ sg n f p ∧ sg n f p ≤ 54) := alk (h := 6) (by omega)
  have ef : fe n f [54, 100] p = if al n f 54 p = true then (if al n f 100 (p + 1) = true then none else some (p + 1)) else some p := rfl
  have eN : nR n f p 2 = (sg n f p - 48) * 10 + (sg n f (p + 1) - 48) := by
    show (sg n f p - 48) * 10 ^ 1 + ((sg n f (p + 1) - 48) * 10 ^ 0 + 0) = _
    omega
  rw [ef, a54]
  cases c : dgt n f p with
  | false =>
    have c' := of_decide_eq_false c
    rw [c, if_neg (by decide)] at e'
    rw [decide_eq_false (by omega), if_neg (by decide)]
    refine ⟨fun w => (by cases w), fun x he => ?_⟩
    have he2 : p = x := by injection he
    subst he2
    exact ⟨m, e', Sp.rf hp⟩
  | true =>
    have c' := of_decide_eq_true c
    rw [c, if_pos rfl, n0, n10, i3m, i3a, show (60 : Int32) = i3 60 from rfl, iLt (by omega) (by omega)] at e'
    by_cases k : sg n f p ≤ 54
    · have q1 : (1 : Int32) ≤ i3 (0 + (sg n f p - 48) * 10) + i3 10 - 1 := by
        rw [n1, i3a, i3s (by omega), i3le (by omega) (by omega)]
        omega
      rw [if_neg (by omega), if_pos q1] at e'
      rw [n0, n10, i3m, i3a, show (60 : Int32) = i3 60 from rfl, show i3 10 / i3 10 = i3 1 from rfl, i3m, i3a, iLt (by omega) (by omega)] at e2
      have a100 : al n f 100 (p + 1) = decide ((if sg n f p = 48 then 49 else 48) ≤ sg n f (p + 1) ∧ sg n f (p + 1) ≤ (if sg n f p = 54 then 48 else 57)) := by
        unfold al
        rw [if_neg (by decide), if_pos rfl, show p + 1 - 1 = p from rfl]
      rw [decide_eq_true (by omega), if_pos rfl, a100]
      have sx : (if sg n f p = 48 then 49 else 48) = 48 + (if sg n f p = 48 then 1 else 0) := by split <;> rfl
      have fin : ∀ M : gM, Sp (p + 1) m M → fX6_figures 0 10 1 60 m = some (M, -1) → ¬ ((if sg n f p = 48 then 49 else 48) ≤ sg n f (p + 1) ∧ sg n f (p + 1) ≤ (if sg n f p = 54 then 48 else 57)) → ((if decide ((if sg n f p = 48 then 49 else 48) ≤ sg n f (p + 1) ∧ sg n f (p + 1) ≤ (if sg n f p = 54 then 48 else 57)) = true then none else some (p + 1)) = none → 1 ≤ nR n f p 2 ∧ nR n f p 2 ≤ 60 ∧ ∃ m', fX6_figures 0 10 1 60 m = some (m', i3 (nR n f p 2)) ∧ Sp (p + 2) m m') ∧ (∀ e, (if decide ((if sg n f p = 48 then 49 else 48) ≤ sg n f (p + 1) ∧ sg n f (p + 1) ≤ (if sg n f p = 54 then 48 else 57)) = true then none else some (p + 1)) = some e → ∃ m', fX6_figures 0 10 1 60 m = some (m', -1) ∧ Sp e m m') := fun M hM hF hn => by
        rw [decide_eq_false hn, if_neg (by decide)]
        refine ⟨fun w => by (cases w), fun x he => ?_⟩
        have he2 : p + 1 = x := by injection he
        subst he2
        exact ⟨M, hF, hM⟩
      cases d : dgt n f (p + 1) with
      | false =>
        have d' := of_decide_eq_false d
        rw [d, if_neg (by decide)] at e2
        exact fin _ sp (e'.trans e2) (fun w => d' (by
          have w1 := w.1
          have w2 := w.2
          constructor
          · split at w1 <;> omega
          · split at w2 <;> omega))
      | true =>
        have d' := of_decide_eq_true d
        rw [d, if_pos rfl] at e2
        by_cases b1 : 60 < 0 + (sg n f p - 48) * 10 + (sg n f (p + 1) - 48) * 1
        · rw [if_pos b1] at e2
          exact fin _ sp (e'.trans e2) (fun w => by
            have w2 := w.2
            split at w2 <;> omega)
        · rw [if_neg b1] at e2
          by_cases b2 : 1 ≤ 0 + (sg n f p - 48) * 10 + (sg n f (p + 1) - 48) * 1
          · have q2 : (1 : Int32) ≤ i3 (0 + (sg n f p - 48) * 10 + (sg n f (p + 1) - 48) * 1) + i3 1 - 1 := by
              rw [n1, i3a, i3s (by omega), i3le (by omega) (by omega)]
              omega
            rw [if_pos q2] at e2
            have ok : (if sg n f p = 48 then 49 else 48) ≤ sg n f (p + 1) ∧ sg n f (p + 1) ≤ (if sg n f p = 54 then 48 else 57) := by
              constructor
              · split <;> omega
              · split <;> omega
            rw [decide_eq_true ok, if_pos rfl]
            refine ⟨fun _ => ⟨by omega, by omega, ?_⟩, fun x he => (by cases he)⟩
            refine ⟨_, (e'.trans e2).trans ?_, sp.tr (Sp.u (e := p + 2))⟩
            rw [show p + 1 + 1 = p + 2 from rfl, eN, show 0 + (sg n f p - 48) * 10 + (sg n f (p + 1) - 48) * 1 = (sg n f p - 48) * 10 + (sg n f (p + 1) - 48) from by omega]
            exact fg_e (g := 4997) (by decide) (by decide)
          · have q2 : ¬ (1 : Int32) ≤ i3 (0 + (sg n f p - 48) * 10 + (sg n f (p + 1) - 48) * 1) + i3 1 - 1 := by
              rw [n1, i3a, i3s (by omega), i3le (by omega) (by omega)]
              omega
            rw [if_neg q2] at e2
            exact fin _ sp (e'.trans e2) (fun w => by
              have w1 := w.1
              split at w1 <;> omega)
    · rw [if_pos (by omega)] at e'
      rw [decide_eq_false (by omega), if_neg (by decide)]
      refine ⟨fun w => (by cases w), fun x he => ?_⟩
      have he2 : p = x := by injection he
      subst he2
      exact ⟨m, e', Sp.rf hp⟩
