/-! the text: a command, read and done -/
theorem al48 {n k p : Nat} {f : Nat → Nat} (h : al n f k p = true) (hk : ¬ k = 43) : 48 ≤ sg n f p := by
  unfold al at h
  rw [if_neg hk] at h
  by_cases r : k = 100
  · rw [if_pos r] at h
    have h1 := (of_decide_eq_true h).1
    split at h1 <;> omega
  · rw [if_neg r] at h
    exact (of_decide_eq_true h).1
theorem al_n {n k p : Nat} {f : Nat → Nat} (h : al n f k p = true) : p < n := by
  by_cases q : p < n
  · exact q
  · have e : sg n f p = 0 := if_neg q
    by_cases r : k = 43
    · unfold al at h
      rw [if_pos r, e] at h
      exact absurd h (by decide)
    · have := al48 h r
      omega
theorem al_k {n h p : Nat} {f : Nat → Nat} (hh : h ≤ 9) (w : al n f (48 + h) p = true) : 48 ≤ sg n f p ∧ sg n f p - 48 ≤ h := by
  rw [alk hh] at w
  have := of_decide_eq_true w
  omega
theorem fe_n {n : Nat} {f : Nat → Nat} : ∀ (ks : List Nat) (p : Nat), p ≤ n → fe n f ks p = none → p + ks.length ≤ n
  | [], p, h, _ => h
  | k :: ks, p, h, w => by
    unfold fe at w
    by_cases c : al n f k p = true
    · rw [if_pos c] at w
      have h1 := al_n c
      have h2 := fe_n ks (p + 1) (by omega) w
      show p + (ks.length + 1) ≤ n
      omega
    · rw [if_neg c] at w
      cases w
theorem fe_c {n k p : Nat} {f : Nat → Nat} {ks : List Nat} (w : fe n f (k :: ks) p = none) : al n f k p = true ∧ fe n f ks (p + 1) = none := by
  unfold fe at w
  by_cases c : al n f k p = true
  · rw [if_pos c] at w
    exact ⟨c, w⟩
  · rw [if_neg c] at w
    cases w
theorem fe_x {n k p e : Nat} {f : Nat → Nat} {ks : List Nat} (w : fe n f (k :: ks) p = some e) : (al n f k p = false ∧ e = p) ∨ (al n f k p = true ∧ fe n f ks (p + 1) = some e) := by
  unfold fe at w
  by_cases c : al n f k p = true
  · rw [if_pos c] at w
    exact Or.inr ⟨c, w⟩
  · rw [if_neg c] at w
    injection w with w
    exact Or.inl ⟨Bool.eq_false_iff.mpr c, w.symm⟩
theorem dgs_ok {n : Nat} {f : Nat → Nat} : ∀ (q p : Nat), fe n f (dgs q) p = none → (∀ y, y < q → 48 ≤ sg n f (p + y)) ∧ nR n f p q < 10 ^ q
  | 0, p, _ => ⟨fun y hy => by omega, by show 0 < 10 ^ 0; decide⟩
  | q + 1, p, w => by
    obtain ⟨c, w'⟩ := fe_c (k := 57) (ks := dgs q) w
    obtain ⟨h1, h2⟩ := dgs_ok q (p + 1) w'
    rw [al57] at c
    have c' := of_decide_eq_true c
    refine ⟨fun y hy => ?_, ?_⟩
    · cases y with
      | zero => exact c'.1
      | succ y =>
        have := h1 y (by omega)
        rw [show p + (y + 1) = p + 1 + y from by omega]
        exact this
    · show (sg n f p - 48) * 10 ^ q + nR n f (p + 1) q < 10 ^ (q + 1)
      have hd : (sg n f p - 48) * 10 ^ q ≤ 9 * 10 ^ q := Nat.mul_le_mul_right _ (by omega)
      rw [Nat.pow_succ]
      omega
theorem nR1 {n p : Nat} {f : Nat → Nat} : nR n f p 1 = sg n f p - 48 := by
  show (sg n f p - 48) * 10 ^ 0 + 0 = _
  omega
theorem gClE {o : Option (gM × Int32)} : (gCl o fun m x => some (m, x)) = o := by
  cases o <;> rfl
theorem ssg {x : Int32} {m : gM} : fX6_streetSign x m = fX6_figures x 1 0 (i3 3) m := by
  unfold fX6_streetSign
  exact gClE
theorem csg {m : gM} : fX6_customerSign m = fX6_figures (i3 0) 1 0 (i3 9) m := by
  unfold fX6_customerSign
  exact gClE
abbrev kA : Int32 → gM → Option (gM × Int32) := fun x8 m9 => gCl (fX6_done x8 m9) fun m12 x13 => (if x13 = 0 then gRz .boolean 0 (some (m12, 0)) else gRz .boolean 1 (some (m12, 1)))
abbrev kB : Int32 → gM → Option (gM × Int32) := fun x8 m9 => gCl (fX6_done x8 m9) fun m12 x13 => gRz .boolean x13 (some (m12, x13))
def GK (K : Int32 → gM → Option (gM × Int32)) : Prop := ∀ (w : Bool) (m : gM), K (bI w) m = some (upd m (5693 + 10) (m (5693 + 10) + bI (!w)), 1)
theorem gkA : GK kA := fun w m => by cases w <;> rfl
theorem dnI (w : Bool) (m : gM) : fX6_done (bI w) m = some (upd m (5693 + 10) (m (5693 + 10) + bI (!w)), 1) := by cases w <;> rfl
theorem gkB : GK kB := fun w m => by
  show (gCl (fX6_done (bI w) m) fun m26 x27 => gRz .boolean x27 (some (m26, x27))) = _
  rw [dnI, gClI, gRz1]
/-- read with an error -/
def Er (n : Nat) (f : Nat → Nat) (a : Nat) : Prop := ∀ e, ck n f a = some e → ∀ m, Tm n f m → m (5693 + 9) = i3 a → ∃ m', fX6_readCommand 6082 258 m = some (m', 0) ∧ Sp e m m'
def OkR (n : Nat) (f : Nat → Nat) (a l : Nat) (S D S' D' : gB) (w : Bool) : Prop := ∀ m, Tm n f m → m (5693 + 9) = i3 a → Mr 6082 S D m → ∃ m', fX6_readCommand 6082 258 m = some (m', 1) ∧ m' (5693 + 9) = i3 (a + (1 + l)) ∧ m' (5693 + 10) = m (5693 + 10) + bI (!w) ∧ Mr 6082 S' D' m' ∧ ∀ x, x ≠ 5702 → x ≠ 5703 → (x < 6082 ∨ 6340 ≤ x) → m' x = m x
def OkD (n : Nat) (f : Nat → Nat) (a : Nat) (S D S' D' : gB) (w : Bool) : Prop := ∀ m, Tc n f m → Cb 128 S D m → ∃ m' x, fX4_doCommand (i3 a) 128 m = some (m', x) ∧ (x = -1 ↔ w = false) ∧ Cb 128 S' D' m' ∧ Fr 128 308 m m'
theorem okA {n a l B' : Nat} {f : Nat → Nat} {S D : gB} {C : gM → Option (gM × Int32)} {R : (Int32 → gM → Option (gM × Int32)) → gM → Option (gM × Int32)} {K : Int32 → gM → Option (gM × Int32)} (hA : Ta B' S D C R) (hK : GK K) (hR : ∀ m, Tm n f m → m (5693 + 9) = i3 a → ∃ m4, Sp (a + (1 + l)) m m4 ∧ ∀ m', R K m4 = some (m', 1) → fX6_readCommand 6082 258 m = some (m', 1)) (hC : ∀ m, Tc n f m → fX4_doCommand (i3 a) 128 m = C m) : ∃ S' D' w, Iv B' S' D' ∧ OkR n f a l S D S' D' w ∧ OkD n f a S D S' D' w := by
  obtain ⟨S', D', w, hI, c1, r1⟩ := hA
  refine ⟨S', D', w, hI, fun m hT ha hM => ?_, fun m hT hb => ?_⟩
  · obtain ⟨m4, p1, p2⟩ := hR m hT ha
    obtain ⟨m5, q1, q2, q3⟩ := r1 m4 (hM.ag (fun x h1 h2 => p1.2 x (by omega)))
    refine ⟨_, p2 _ ((q3 K).trans (hK w m5)), ?_, ?_, q1.ag (fun x h1 h2 => upd_n (by omega)), fun x h1 h2 h3 => ?_⟩
    · rw [upd_n (by omega), q2 _ (by omega)]
      exact p1.1
    · rw [upd_s, q2 _ (by omega), p1.2 _ (by omega)]
    · rw [upd_n (by omega), q2 _ (by omega), p1.2 _ (by omega)]
  · obtain ⟨m', x, a1, a2, a3, a4⟩ := c1 m hb
    exact ⟨m', x, (hC m hT).trans a1, a2, a3, a4⟩
/-- the sign that is read first -/
theorem rch {n a : Nat} {f : Nat → Nat} {m : gM} (hT : Tm n f m) (ha : m (5693 + 9) = i3 a) (hn : a < n) : ∀ (k : Int32 → gM → Option (gM × Int32)), (gLt (m (5693 + 9)) fun x2 => gRd m 5704 120 x2 fun x3 => gLt (m (5693 + 9)) fun x4 => gLt (upd m (5693 + 9) (x4 + 1)) fun m5 => k x3 m5) = k (i3 (sg n f a)) (upd m (5693 + 9) (i3 (a + 1))) := fun k => by
  have h120 := hT.2.1
  rw [ha, gLtI, gRdI (by omega) (by omega), (hT.2.2 a hn).1, gLtI, gLtI, n1, i3a, show sg n f a = f a from if_pos hn]
theorem wrp {o : Option (gM × Int32)} {m' : gM} {b : Bool} (h : o = some (m', bI b)) : (gCl o fun m7 x8 => gRz .boolean x8 (some (m7, x8))) = some (m', bI b) := by
  rw [h, gClI, gRzB]
section HEADS
variable {n a : Nat} {f : Nat → Nat} {m : gM}
theorem rc_c (hT : Tm n f m) (ha : m (5693 + 9) = i3 a) (hn : a < n) (hs : sg n f a = 99) : fX6_readCommand 6082 258 m = gCl (fX6_readCustomer 6082 258 (upd m (5693 + 9) (i3 (a + 1)))) fun m7 x8 => gRz .boolean x8 (some (m7, x8)) := by
  refine (rch hT ha hn _).trans ?_
  rw [hs, if_pos (by decide)]
theorem rc_n (hT : Tm n f m) (ha : m (5693 + 9) = i3 a) (hn : a < n) (hs : sg n f a = 110) : fX6_readCommand 6082 258 m = gCl (fX6_readChange 6082 258 (upd m (5693 + 9) (i3 (a + 1)))) fun m7 x8 => gRz .boolean x8 (some (m7, x8)) := by
  refine (rch hT ha hn _).trans ?_
  rw [hs, if_neg (by decide), if_neg (by decide), if_neg (by decide), if_neg (by decide), if_neg (by decide), if_neg (by decide), if_neg (by decide), if_neg (by decide), if_neg (by decide), if_neg (by decide), if_neg (by decide), if_pos (by decide)]
theorem rc_h (hT : Tm n f m) (ha : m (5693 + 9) = i3 a) (hn : a < n) (hs : sg n f a = 104) : fX6_readCommand 6082 258 m = gCl (fX6_readHoliday 6082 258 (upd m (5693 + 9) (i3 (a + 1)))) fun m7 x8 => gRz .boolean x8 (some (m7, x8)) := by
  refine (rch hT ha hn _).trans ?_
  rw [hs, if_neg (by decide), if_neg (by decide), if_neg (by decide), if_neg (by decide), if_neg (by decide), if_pos (by decide)]
theorem rc_x (hT : Tm n f m) (ha : m (5693 + 9) = i3 a) (hn : a < n) (hs : sg n f a = 120) : fX6_readCommand 6082 258 m = gCl (fX6_readClose 6082 258 (upd m (5693 + 9) (i3 (a + 1)))) fun m7 x8 => gRz .boolean x8 (some (m7, x8)) := by
  refine (rch hT ha hn _).trans ?_
  rw [hs, if_neg (by decide), if_neg (by decide), if_neg (by decide), if_neg (by decide), if_neg (by decide), if_neg (by decide), if_neg (by decide), if_neg (by decide), if_neg (by decide), if_neg (by decide), if_neg (by decide), if_neg (by decide), if_neg (by decide), if_neg (by decide), if_neg (by decide), if_neg (by decide), if_neg (by decide), if_neg (by decide), if_neg (by decide), if_neg (by decide), if_neg (by decide), if_pos (by decide)]
theorem rc_v (hT : Tm n f m) (ha : m (5693 + 9) = i3 a) (hn : a < n) (hs : sg n f a = 118) : fX6_readCommand 6082 258 m = gCl (fX6_streetSign 0 (upd m (5693 + 9) (i3 (a + 1)))) fun m94 x95 => gCl (fX6_streetSign x95 m94) fun m97 x98 => (if x98 = (-1) then gRz .boolean 0 (some (m97, 0)) else gCl (fX6_swapOn 6082 258 x95 x98 m97) fun m100 x101 => gLt ((if x101 < 0 then 0 else 1) : Int32) fun x103 => kA x103 m100) := by
  refine (rch hT ha hn _).trans ?_
  rw [hs, if_neg (by decide), if_neg (by decide), if_neg (by decide), if_neg (by decide), if_neg (by decide), if_neg (by decide), if_neg (by decide), if_neg (by decide), if_neg (by decide), if_neg (by decide), if_neg (by decide), if_neg (by decide), if_neg (by decide), if_neg (by decide), if_neg (by decide), if_neg (by decide), if_neg (by decide), if_neg (by decide), if_neg (by decide), if_pos (by decide)]
theorem rc_s (hT : Tm n f m) (ha : m (5693 + 9) = i3 a) (hn : a < n) (hs : sg n f a = 115) : fX6_readCommand 6082 258 m = gCl (fX6_figures 0 1 0 4 (upd m (5693 + 9) (i3 (a + 1)))) fun m68 x69 => gCl (fX6_figures x69 10 0 99 m68) fun m71 x72 => (if x72 = (-1) then gRz .boolean 0 (some (m71, 0)) else gCl (fX6_isSetting x69 x72 m71) fun m74 x75 => (if x75 = 0 then kA 0 m74 else gCl (fX6_put 6082 258 (11 + x69) x72 m74) fun m84 x85 => (if x85 < 0 then kA 0 m84 else kA 1 m84))) := by
  refine (rch hT ha hn _).trans ?_
  rw [hs, if_neg (by decide), if_neg (by decide), if_neg (by decide), if_neg (by decide), if_neg (by decide), if_neg (by decide), if_neg (by decide), if_neg (by decide), if_neg (by decide), if_neg (by decide), if_neg (by decide), if_neg (by decide), if_neg (by decide), if_neg (by decide), if_neg (by decide), if_neg (by decide), if_pos (by decide)]
  rfl
theorem rc_d (hT : Tm n f m) (ha : m (5693 + 9) = i3 a) (hn : a < n) (hs : sg n f a = 100) : fX6_readCommand 6082 258 m = gCl (fX6_figures 0 10 1 60 (upd m (5693 + 9) (i3 (a + 1)))) fun m11 x12 => (if x12 = (-1) then gRz .boolean 0 (some (m11, 0)) else gCl (fX6_daysOn 6082 258 x12 m11) fun m14 x15 => gLt ((if x15 < 0 then 0 else 1) : Int32) fun x17 => kA x17 m14) := by
  refine (rch hT ha hn _).trans ?_
  rw [hs, if_neg (by decide), if_pos (by decide)]
theorem rc_o (hT : Tm n f m) (ha : m (5693 + 9) = i3 a) (hn : a < n) (hs : lj (sg n f a) = 7) : ∃ m', fX6_readCommand 6082 258 m = some (m', 0) ∧ Sp a m m' := by
  have h256 : sg n f a < 256 := by
    rw [show sg n f a = f a from if_pos hn]
    exact (hT.2.2 a hn).2
  have e : ∀ k, k < 256 → ¬ lj k = 7 → ¬ i3 (sg n f a) = i3 k := fun k hk h h2 => by
    rw [i3e (by omega) (by omega)] at h2
    rw [h2] at hs
    exact h hs
  have r0 : ¬ i3 (sg n f a) = 99 := e 99 (by omega) (by decide)
  have r1 : ¬ i3 (sg n f a) = 110 := e 110 (by omega) (by decide)
  have r2 : ¬ i3 (sg n f a) = 104 := e 104 (by omega) (by decide)
  have r3 : ¬ i3 (sg n f a) = 120 := e 120 (by omega) (by decide)
  have r4 : ¬ i3 (sg n f a) = 118 := e 118 (by omega) (by decide)
  have r5 : ¬ i3 (sg n f a) = 115 := e 115 (by omega) (by decide)
  have r6 : ¬ i3 (sg n f a) = 100 := e 100 (by omega) (by decide)
  refine ⟨upd (upd m (5693 + 9) (i3 (a + 1))) (5693 + 9) (i3 a), (rch hT ha hn _).trans ?_, upd_s, fun x hx => (upd_n hx).trans (upd_n hx)⟩
  simp only [r0, r1, r2, r3, r4, r5, r6, if_false, ite_self]
  rw [upd_s, gLtI, n1, i3s (by omega), gLtI, show a + 1 - 1 = a from rfl]
  rfl
end HEADS
