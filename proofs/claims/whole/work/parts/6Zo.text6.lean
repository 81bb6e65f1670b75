/-! the text, sign by sign to its end -/
theorem fe_l {n : Nat} {f : Nat → Nat} : ∀ (ks : List Nat) (p e : Nat), fe n f ks p = some e → e < p + ks.length
  | [], p, e, h => by cases h
  | k :: ks, p, e, h => by
    rcases fe_x h with ⟨-, q⟩ | ⟨-, q⟩
    · subst q
      show e < e + (ks.length + 1)
      omega
    · have := fe_l ks (p + 1) e q
      show e < p + (ks.length + 1)
      omega
theorem fm_l {j : Nat} (hj : j < 8) : (fm j).length ≤ 8 ∧ (j < 7 → 2 ≤ (fm j).length) := by
  rcases (show j = 0 ∨ j = 1 ∨ j = 2 ∨ j = 3 ∨ j = 4 ∨ j = 5 ∨ j = 6 ∨ j = 7 by omega) with q | q | q | q | q | q | q | q <;> subst q <;> decide
theorem ck_l {n a e : Nat} {f : Nat → Nat} (h : ck n f a = some e) : e < a + 10 := by
  unfold ck at h
  have h8 := (fm_l (lj8 (sg n f a))).1
  by_cases q : lj (sg n f a) = 7
  · rw [if_pos q] at h
    injection h with h
    omega
  · rw [if_neg q] at h
    have := fe_l _ _ _ h
    omega
theorem stp {n a B : Nat} {f : Nat → Nat} {S D : gB} (hn : a < n) (hl : n ≤ 120) (hB : B < 100000) : Er n f a ∧ (ck n f a = none → Iv B S D → ∃ l S' D' w, l = (fm (lj (sg n f a))).length ∧ 2 ≤ l ∧ a + (1 + l) ≤ n ∧ Iv (B + 60) S' D' ∧ OkR n f a l S D S' D' w ∧ OkD n f a S D S' D' w) := by
  by_cases q7 : lj (sg n f a) = 7
  · have hck : ck n f a = some a := if_pos q7
    refine ⟨fun e he m hT ha => ?_, fun he => ?_⟩
    · rw [hck] at he
      injection he with he
      subst he
      exact rc_o hT ha hn q7
    · rw [hck] at he
      cases he
  · have hlt : ck n f a = none → a + (1 + (fm (lj (sg n f a))).length) ≤ n := fun he => by
      unfold ck at he
      rw [if_neg q7] at he
      have := fe_n _ _ (by omega) he
      omega
    have h2 : 2 ≤ (fm (lj (sg n f a))).length := (fm_l (lj8 _)).2 (by have := lj8 (sg n f a); omega)
    have fin : ∀ l, l = (fm (lj (sg n f a))).length → (Er n f a ∧ (ck n f a = none → Iv B S D → ∃ S' D' w, Iv (B + 60) S' D' ∧ OkR n f a l S D S' D' w ∧ OkD n f a S D S' D' w)) → Er n f a ∧ (ck n f a = none → Iv B S D → ∃ l S' D' w, l = (fm (lj (sg n f a))).length ∧ 2 ≤ l ∧ a + (1 + l) ≤ n ∧ Iv (B + 60) S' D' ∧ OkR n f a l S D S' D' w ∧ OkD n f a S D S' D' w) := fun l el h => ⟨h.1, fun he hI => by
      obtain ⟨S', D', w, h3⟩ := h.2 he hI
      exact ⟨l, S', D', w, el, by omega, by have := hlt he; omega, h3⟩⟩
    by_cases q0 : sg n f a = 99
    · exact fin 8 (by rw [q0]; rfl) (st_c hn hl q0)
    by_cases q1 : sg n f a = 110
    · exact fin 3 (by rw [q1]; rfl) (st_n hn hl q1)
    by_cases q2 : sg n f a = 104
    · exact fin 5 (by rw [q2]; rfl) (st_h hn hl q2)
    by_cases q3 : sg n f a = 120
    · exact fin 3 (by rw [q3]; rfl) (st_x hn hl q3)
    by_cases q4 : sg n f a = 118
    · exact fin 2 (by rw [q4]; rfl) (st_v hn hl q4)
    by_cases q5 : sg n f a = 115
    · exact fin 3 (by rw [q5]; rfl) (st_s hn hl q5)
    by_cases q6 : sg n f a = 100
    · exact fin 2 (by rw [q6]; rfl) (st_d hn hl hB q6)
    refine absurd ?_ q7
    unfold lj
    rw [if_neg q0, if_neg q1, if_neg q2, if_neg q3, if_neg q4, if_neg q5, if_neg q6]
theorem Tm.ag {n : Nat} {f : Nat → Nat} {m m' : gM} (h : Tm n f m) (hs : ∀ x, x ≠ 5702 → x ≠ 5703 → (x < 6082 ∨ 6340 ≤ x) → m' x = m x) : Tm n f m' := by
  have hn := h.2.1
  refine ⟨by rw [hs _ (by omega) (by omega) (by omega)]; exact h.1, hn, fun i hi => ⟨?_, (h.2.2 i hi).2⟩⟩
  rw [hs _ (by omega) (by omega) (by omega)]
  exact (h.2.2 i hi).1
theorem Tc.fr {n : Nat} {f : Nat → Nat} {m m' : gM} (h : Tc n f m) (hs : ∀ x, x < 128 → m' x = m x) : Tc n f m' := by
  have hn := h.2.1
  refine ⟨by rw [hs _ (by omega)]; exact h.1, hn, fun i hi => ⟨?_, (h.2.2 i hi).2⟩⟩
  rw [hs _ (by omega)]
  exact (h.2.2 i hi).1
theorem ScT {m m' : gM} (hs : ∀ x, x ≠ 5702 → x ≠ 5703 → (x < 6082 ∨ 6340 ≤ x) → m' x = m x) : Sc m m' := fun x hx => hs x (fun e => hx (by unfold scr; omega)) (fun e => hx (by unfold scr; omega)) (by
  by_cases c : 6082 ≤ x ∧ x < 6340
  · exact absurd (by unfold scr; omega) hx
  · omega)
def LpE (n : Nat) (f : Nat → Nat) (a g : Nat) (S D : gB) : Prop := ∃ e, e < 1000 ∧ (∀ m, Tc n f m → fX4_firstError_L14 g (i3 a) m = some (m, i3 e)) ∧ (∀ m, Tm n f m → m (5693 + 9) = i3 a → Mr 6082 S D m → ∃ m', fX6_readText_L39 6082 258 g m = some (m', i3 e) ∧ Sc m m')
def LpO (n : Nat) (f : Nat → Nat) (a g : Nat) (S D : gB) : Prop := ∃ (S' D' : gB) (w : Nat), Iv 2400 S' D' ∧ (∀ m, Tc n f m → fX4_firstError_L14 g (i3 a) m = some (m, -1)) ∧ (∀ m, Tm n f m → m (5693 + 9) = i3 a → Mr 6082 S D m → ∃ m', fX6_readText_L39 6082 258 g m = some (m', -1) ∧ Mr 6082 S' D' m' ∧ m' (5693 + 10) = m (5693 + 10) + i3 w ∧ Sc m m') ∧ (∀ (r : Int32 → gM → Option (gM × Nat × Int32)) (v : Int32) m, Tc n f m → Cb 128 S D m → ∃ m', fX5_load_L57 r g v (i3 a) m = some (m', 0, v + i3 w) ∧ Cb 128 S' D' m' ∧ Fr 128 308 m m')
theorem lp {n : Nat} {f : Nat → Nat} (hl : n ≤ 120) : ∀ (g j a B : Nat) (S D : gB), a + j = n → j < g → Iv B S D → B ≤ 20 * a → LpE n f a g S D ∨ LpO n f a g S D := by
  intro g
  induction g with
  | zero => intro j a B S D h1 h2; omega
  | succ g ih =>
    intro j a B S D h1 h2 hI hB
    by_cases q : j = 0
    · have e : a = n := by omega
      subst e
      refine Or.inr ⟨S, D, 0, hI.le (by omega), fun m h => ?_, fun m h ha hM => ⟨m, ?_, hM, ?_, Sc.rf⟩, fun r v m h hb => ⟨m, ?_, hb, Fr.rf⟩⟩
      · unfold fX4_firstError_L14
        rw [h.1, gLtI, if_pos (Int32.le_refl _)]
      · unfold fX6_readText_L39
        rw [ha, gLtI, h.1, gLtI, if_pos (Int32.le_refl _)]
      · rw [← n0, Int32.add_zero]
      · unfold fX5_load_L57
        rw [h.1, gLtI, if_pos (Int32.le_refl _), ← n0, Int32.add_zero]
    · have hn : a < n := by omega
      obtain ⟨he, ho⟩ := stp (f := f) (S := S) (D := D) hn hl (show B < 100000 by omega)
      have hlt : ¬ i3 n ≤ i3 a := by
        rw [i3le (by omega) (by omega)]
        omega
      cases hc : ck n f a with
      | some e =>
        have hel := ck_l hc
        refine Or.inl ⟨e, by omega, fun m h => ?_, fun m h ha hM => ?_⟩
        · rw [c_l14 h hn, hc]
          rfl
        · obtain ⟨m', a1, a2⟩ := he e hc m h ha
          refine ⟨m', ?_, ?_⟩
          · unfold fX6_readText_L39
            rw [ha, gLtI, h.1, gLtI, if_neg hlt, a1, gClI, if_pos rfl, a2.1, gLtI]
          · exact ScT (fun x h1 h2 h3 => a2.2 x h1)
      | none =>
        obtain ⟨l, S1, D1, w1, el, l2, ln, v1, oR, oD⟩ := ho hc hI
        have k1 : ∀ m, Tc n f m → fX4_firstError_L14 (g + 1) (i3 a) m = fX4_firstError_L14 g (i3 (a + (1 + l))) m := fun m h => by
          rw [c_l14 h hn, hc, el]
          rfl
        have k2 : ∀ m, Tm n f m → m (5693 + 9) = i3 a → Mr 6082 S D m → ∃ m1, fX6_readText_L39 6082 258 (g + 1) m = fX6_readText_L39 6082 258 g m1 ∧ Tm n f m1 ∧ m1 (5693 + 9) = i3 (a + (1 + l)) ∧ Mr 6082 S1 D1 m1 ∧ m1 (5693 + 10) = m (5693 + 10) + bI (!w1) ∧ Sc m m1 := fun m h ha hM => by
          obtain ⟨m1, b1, b2, b3, b4, b5⟩ := oR m h ha hM
          refine ⟨m1, ?_, h.ag b5, b2, b4, b3, ScT b5⟩
          conv => lhs; unfold fX6_readText_L39
          rw [ha, gLtI, h.1, gLtI, if_neg hlt, b1, gClI, if_neg (by decide)]
        rcases ih (n - (a + (1 + l))) (a + (1 + l)) (B + 60) S1 D1 (by omega) (by omega) v1 (by omega) with ⟨e, e1, e2, e3⟩ | ⟨S', D', w, e1, e2, e3, e4⟩
        · refine Or.inl ⟨e, e1, fun m h => (k1 m h).trans (e2 m h), fun m h ha hM => ?_⟩
          obtain ⟨m1, b1, b2, b3, b4, b5, b6⟩ := k2 m h ha hM
          obtain ⟨m2, d1, d2⟩ := e3 m1 b2 b3 b4
          exact ⟨m2, b1.trans d1, b6.tr d2⟩
        · have eb : bI (!w1) = i3 (if w1 = true then 0 else 1) := by cases w1 <;> rfl
          refine Or.inr ⟨S', D', (if w1 = true then 0 else 1) + w, e1, fun m h => (k1 m h).trans (e2 m h), fun m h ha hM => ?_, fun r v m h hb => ?_⟩
          · obtain ⟨m1, b1, b2, b3, b4, b5, b6⟩ := k2 m h ha hM
            obtain ⟨m2, d1, d2, d3, d4⟩ := e3 m1 b2 b3 b4
            refine ⟨m2, b1.trans d1, d2, ?_, b6.tr d4⟩
            rw [d3, b5, eb, Int32.add_assoc, i3a]
          · obtain ⟨m1, x, a1, a2, a3, a4⟩ := oD m h hb
            have h1 : Tc n f m1 := h.fr (fun y hy => a4 y (by omega))
            obtain ⟨m2, d1, d2, d3⟩ := e4 r (v + bI (!w1)) m1 h1 a3
            refine ⟨m2, ?_, d2, a4.tr d3⟩
            unfold fX5_load_L57
            rw [h.1, gLtI, if_neg hlt, a1, gClI, gLtI]
            have ef : ∀ y : Int32, (gCl (fX4_formLength (i3 a) m1) fun m28 x29 => gLt ((i3 a + (1 + x29))) fun x31 => fX5_load_L57 r g y x31 m28) = fX5_load_L57 r g y (i3 (a + (1 + l))) m1 := fun y => by
              rw [c_fl h1 (by omega), gClI, gLtI, ← el, n1, i3a, i3a]
            rw [eb, Int32.add_assoc, i3a] at d1
            cases w1 with
            | false =>
              rw [if_pos (a2.mpr rfl), gLtI]
              exact (ef (v + 1)).trans d1
            | true =>
              rw [if_neg (fun z => absurd (a2.mp z) (by decide))]
              rw [show v + i3 (if true = true then 0 else 1) = v from Int32.add_zero v] at d1
              exact (ef v).trans d1
/-- the whole text -/
theorem lpT {n : Nat} {f : Nat → Nat} (hl : n ≤ 120) : (∃ e, e < 1000 ∧ (∀ m, Tc n f m → fX4_firstError m = some (m, i3 e)) ∧ (∀ m, Tm n f m → ∃ m', fX6_readText 6082 258 m = some (m', i3 e) ∧ Sc m m')) ∨ (∃ (S' D' : gB) (w : Nat), Iv 2400 S' D' ∧ (∀ m, Tc n f m → fX4_firstError m = some (m, -1)) ∧ (∀ m, Tm n f m → ∃ m', fX6_readText 6082 258 m = some (m', -1) ∧ Mr 6082 S' D' m' ∧ m' (5693 + 10) = i3 w ∧ Sc m m') ∧ (∀ (r : Int32 → gM → Option (gM × Nat × Int32)) m, Tc n f m → Cb 128 S0 D0 m → ∃ m', fX5_load_L57 r gFU 0 1 m = some (m', 0, i3 w) ∧ Cb 128 S' D' m' ∧ Fr 128 308 m m')) := by
  have hcl : ∀ m, ∃ o, fX6_clear 6082 258 m = some o ∧ Fr 6082 258 m o ∧ Mr 6082 S0 D0 o := m_clear 6082
  have hC : ∀ m, Tc n f m → fX4_firstError m = (if sg n f 0 = 66 then fX4_firstError_L14 gFU 1 m else some (m, 0)) := fun m h => by
    have h256 := h.sl 0
    unfold fX4_firstError
    rw [show fX4_signAt 0 m = _ from c_sign (p := 0) h (by omega), gClI, show (66 : Int32) = i3 66 from rfl, iEq (by omega) (by omega)]
  have hM : ∀ m, Tm n f m → ∃ m1 : gM, Tm n f m1 ∧ m1 (5693 + 9) = i3 0 ∧ m1 (5693 + 10) = 0 ∧ Mr 6082 S0 D0 m1 ∧ Sc m m1 ∧ fX6_readText 6082 258 m = (if sg n f 0 = 66 then fX6_readText_L39 6082 258 gFU (upd m1 (5693 + 9) (i3 1)) else some (m1, 0)) := fun m h => by
    obtain ⟨o, o1, o2, o3⟩ := hcl m
    have hf : ∀ x, x ≠ 5702 → x ≠ 5703 → (x < 6082 ∨ 6340 ≤ x) → (upd (upd o (5693 + 10) 0) (5693 + 9) 0) x = m x := fun x h1 h2 h3 => by rw [upd_n (by omega), upd_n (by omega), o2 _ (by omega)]
    have hT := h.ag hf
    refine ⟨_, hT, upd_s, by rw [upd_n (by omega), upd_s], o3.ag (fun x h1 h2 => by rw [upd_n (by omega), upd_n (by omega)]), ScT hf, ?_⟩
    unfold fX6_readText
    rw [o1, gCvI, gLtI, gLtI, hT.1, gLtI]
    by_cases q : n = 0
    · subst q
      rw [if_pos (by decide), show sg 0 f 0 = 0 from rfl, if_neg (by decide)]
    · have es : sg n f 0 = f 0 := if_pos (by omega)
      obtain ⟨g1, g2⟩ := hT.2.2 0 (by omega)
      have q' : ¬ i3 n = 0 := by
        rw [n0, i3e (by omega) (by omega)]
        exact q
      have g1' : ∀ k : Int32 → Option (gM × Int32), gRd (upd (upd o (5693 + 10) 0) (5693 + 9) 0) 5704 120 0 k = k (i3 (f 0)) := fun k => by
        rw [← g1]
        exact gRdI (i := 0) (by omega) (by omega)
      rw [if_neg q', g1', show (66 : Int32) = i3 66 from rfl, iEq (by omega) (by omega), es, gLtI]
      rfl
  by_cases c : sg n f 0 = 66
  · have hn : 1 ≤ n := by
      unfold sg at c
      split at c <;> omega
    have l0 := lp (f := f) hl gFU (n - 1) 1 0 S0 D0 (by omega) (by show n - 1 < 5000; omega) (Iv0 0) (by omega)
    rcases l0 with ⟨e, e1, e2, e3⟩ | ⟨S', D', w, e1, e2, e3, e4⟩
    · refine Or.inl ⟨e, e1, fun m h => ?_, fun m h => ?_⟩
      · rw [hC m h, if_pos c]
        exact e2 m h
      · obtain ⟨m1, a1, a2, a3, a4, a5, a6⟩ := hM m h
        have sp : Sp 1 m1 (upd m1 (5693 + 9) (i3 1)) := Sp.u
        obtain ⟨m2, b1, b2⟩ := e3 _ (a1.sp sp) sp.1 (a4.ag (fun x h1 h2 => sp.2 x (by omega)))
        rw [if_pos c] at a6
        exact ⟨m2, a6.trans b1, (a5.tr (ScT (fun x h1 h2 h3 => sp.2 x h1))).tr b2⟩
    · refine Or.inr ⟨S', D', w, e1, fun m h => ?_, fun m h => ?_, fun r m h hb => ?_⟩
      · rw [hC m h, if_pos c]
        exact e2 m h
      · obtain ⟨m1, a1, a2, a3, a4, a5, a6⟩ := hM m h
        have sp : Sp 1 m1 (upd m1 (5693 + 9) (i3 1)) := Sp.u
        obtain ⟨m2, b1, b2, b3, b4⟩ := e3 _ (a1.sp sp) sp.1 (a4.ag (fun x h1 h2 => sp.2 x (by omega)))
        rw [if_pos c] at a6
        refine ⟨m2, a6.trans b1, b2, ?_, (a5.tr (ScT (fun x h1 h2 h3 => sp.2 x h1))).tr b4⟩
        rw [b3, sp.2 _ (by omega), a3, Int32.zero_add]
      · obtain ⟨m', b1, b2, b3⟩ := e4 r 0 m h hb
        rw [Int32.zero_add] at b1
        exact ⟨m', b1, b2, b3⟩
  · refine Or.inl ⟨0, by omega, fun m h => ?_, fun m h => ?_⟩
    · rw [hC m h, if_neg c]
      rfl
    · obtain ⟨m1, a1, a2, a3, a4, a5, a6⟩ := hM m h
      rw [if_neg c] at a6
      exact ⟨m1, a6, a5⟩
theorem InT.tc {n : Nat} {f : Nat → Nat} {m : gM} (h : InT n f m) : Tc n f m := ⟨h.1, h.2.2.1, fun i hi => ⟨(h.2.2.2 i hi).1, (h.2.2.2 i hi).2.2⟩⟩
theorem InT.tm {n : Nat} {f : Nat → Nat} {m : gM} (h : InT n f m) : Tm n f m := ⟨h.2.1, h.2.2.1, fun i hi => ⟨(h.2.2.2 i hi).2.1, (h.2.2.2 i hi).2.2⟩⟩
theorem g2 : gP2 Inv := by
  intro T m hT hi
  have hi0 := hi
  obtain ⟨S, D, n, f, nx, q, F, w, G, h1, h2, h3, h4⟩ := hi
  have ec : ∀ r, fX4_firstError m = some (m, r) → fX5_errorPosition m = some (m, r) := fun r h => by
    unfold fX5_errorPosition
    rw [h, gClI]
  have em : ∀ m' r, fX6_readText 6082 258 (upd m (5693 + 0) 0) = some (m', r) → fX6_errorPosition m = some (m', r) := fun m' r h => by
    unfold fX6_errorPosition
    rw [gLtI, h, gClI]
  have hs := h2.sc (Sc.th (v := 0))
  rcases lpT (f := f) h2.2.2.1 with ⟨e, e1, e2, e3⟩ | ⟨S', D', w', e1, e2, e3, e4⟩
  · obtain ⟨m', a1, a2⟩ := e3 _ hs.tm
    exact ⟨m', ⟨m, _, ec _ (e2 m h2.tc), em _ _ a1⟩, hi0.sc (Sc.th.tr a2)⟩
  · obtain ⟨m', a1, a2, a3, a4⟩ := e3 _ hs.tm
    exact ⟨m', ⟨m, _, ec _ (e2 m h2.tc), em _ _ a1⟩, hi0.sc (Sc.th.tr a4)⟩
theorem c_l35 {m : gM} : ∃ r, fX5_load_L35 gFU 0 m = fX5_load_L57 r gFU 0 1 (upd (upd m (5075 + 0) 0) (5075 + 1) 0) := by
  have s1 : ∀ (g k : Nat) (M : gM), k < 2 → fX5_load_L35 (g + 1) (i3 k) M = fX5_load_L35 g (i3 (k + 1)) (upd M (5075 + k) 0) := fun g k M hk => by
    conv => lhs; unfold fX5_load_L35
    rw [n2, iLe (by omega) (by omega), if_neg (by omega), gWrI (by omega) (by omega), gLtI, n1, i3a]
    rfl
  refine ⟨fX5_load_L35 4997, ?_⟩
  have a1 := s1 4999 0 m (by omega)
  have a2 := s1 4998 1 (upd m (5075 + 0) 0) (by omega)
  have a3 : fX5_load_L35 4998 (i3 (1 + 1)) (upd (upd m (5075 + 0) 0) (5075 + 1) 0) = fX5_load_L57 (fX5_load_L35 4997) gFU 0 1 (upd (upd m (5075 + 0) 0) (5075 + 1) 0) := by
    show fX5_load_L35 (4997 + 1) (i3 2) _ = _
    conv => lhs; unfold fX5_load_L35
    rw [if_pos (by decide)]
  exact (a1.trans a2).trans a3
theorem g3 : gP3 Inv := by
  intro T m hT hi
  have hi0 := hi
  obtain ⟨S, D, n, f, nx, q, F, w, G, h1, h2, h3, h4⟩ := hi
  rcases lpT (f := f) h2.2.2.1 with ⟨e, e1, e2, e3⟩ | ⟨S', D', w', v1, e2, e3, e4⟩
  · obtain ⟨m', a1, a2⟩ := e3 m h2.tm
    have ne : ¬ i3 e = -1 := i3nm (by omega)
    refine ⟨upd m' (5693 + 0) 1, okE (m1 := m) (e := 3) (r := 0) (k := 1) (b := 0) ?_ (by omega) rfl ?_ upd_s, hi0.sc (a2.tr Sc.th)⟩
    · unfold fX5_load
      rw [e2 m h2.tc, gClI, if_neg ne, gLtI]
      rfl
    · unfold fX6_load
      rw [a1, gClI, if_neg ne, gLtI, r_no (by decide), gClI, if_neg (by decide)]
  · obtain ⟨o, o1, o2, o3⟩ := c_make 128 m
    obtain ⟨m1, hm1⟩ : ∃ m1, m1 = upd (upd o (744 + 1) 0) (744 + 2) 0 := ⟨_, rfl⟩
    obtain ⟨r, er⟩ := c_l35 (m := m1)
    obtain ⟨m2, hm2⟩ : ∃ m2, m2 = upd (upd m1 (5075 + 0) 0) (5075 + 1) 0 := ⟨_, rfl⟩
    have f2 : ∀ x, x < 128 ∨ (436 ≤ x ∧ x < 745) ∨ (747 ≤ x ∧ x < 5075) ∨ 5077 ≤ x → m2 x = m x := fun x hx => by
      rw [hm2, upd_n (by omega), upd_n (by omega), hm1, upd_n (by omega), upd_n (by omega), o2 x (by omega)]
    have T2 : Tc n f m2 := h2.tc.fr (fun x hx => f2 x (by omega))
    have b2 : Cb 128 S0 D0 m2 := Cx.ag o3 (Nat.zero_le _) (fun x a1 a2 a3 => by rw [hm2, upd_n (by omega), upd_n (by omega), hm1, upd_n (by omega), upd_n (by omega)])
    obtain ⟨m3, c1, c2, c3⟩ := e4 r m2 T2 b2
    have f3 : ∀ x, x < 128 ∨ (436 ≤ x ∧ x < 745) ∨ (747 ≤ x ∧ x < 5075) ∨ 5077 ≤ x → m3 x = m x := fun x hx => by rw [c3 x (by omega), f2 x hx]
    have kc : fX5_load m = some (m3, 0, i3 w') := by
      unfold fX5_load fX2_forgetAll
      rw [e2 m h2.tc, gClI, if_pos rfl, gLtI, show (1 : Int32) = bI true from rfl, gDemT, o1, gCvI, gLtI, gLtI, ← hm1, gCvI, er, ← hm2]
      exact c1
    have T3 : Tm n f m3 := by
      obtain ⟨t1, t2, t3⟩ := h2.tm
      refine ⟨by rw [f3 _ (by omega)]; exact t1, t2, fun i hi => ⟨?_, (t3 i hi).2⟩⟩
      rw [f3 _ (by omega)]
      exact (t3 i hi).1
    obtain ⟨m4, d1, d2, d3, d4⟩ := e3 m3 T3
    obtain ⟨m5, hm5⟩ : ∃ m5, m5 = upd m4 (5693 + 0) 0 := ⟨_, rfl⟩
    have g5 : Mr (6082 + 0) S' D' m5 := d2.ag (fun x a1 a2 => by rw [hm5, upd_n (by omega)])
    obtain ⟨m6, t1, t2, t3⟩ := m_copy (a := 6082) (na := 258) (p := 0) (b := 5824) (nb := 258) (q := 0) g5 (by omega) (by omega) (by omega) (by omega) (by omega)
    obtain ⟨m7, hm7⟩ : ∃ m7, m7 = upd (upd (upd m6 (5693 + 6) 0) (10468 + 0) 0) (10468 + 1) 0 := ⟨_, rfl⟩
    have w0 : ∀ (M : gM) (k : gM → Option (gM × Int32)), gWr M 10468 2 0 (vp_nar .boolean 0) k = k (upd M (10468 + 0) 0) := fun M k => gWrI (i := 0) (by omega) (by omega)
    have w1 : ∀ (M : gM) (k : gM → Option (gM × Int32)), gWr M 10468 2 1 (vp_nar .boolean 0) k = k (upd M (10468 + 1) 0) := fun M k => gWrI (i := 1) (by omega) (by omega)
    have out7 : m7 (5693 + 10) = i3 w' := by
      rw [hm7, upd_n (by omega), upd_n (by omega), upd_n (by omega), t3 _ (by omega), hm5, upd_n (by omega), d3]
    have km : fX6_load m3 = some (m7, i3 w') := by
      unfold fX6_load
      rw [d1, gClI, if_pos rfl, gLtI, r_ok, gClI, if_pos rfl, ← hm5]
      rw [show fX6_copyState 6082 258 0 5824 258 0 m5 = some m6 from t1, gCvI, gLtI, w0, w1, ← hm7, gLtI, out7]
    have f7 : ∀ x, ¬ scr x → x ≠ 5699 → x ≠ 10468 → x ≠ 10469 → (x < 5824 ∨ 6082 ≤ x) → m7 x = m3 x := fun x x0 x1 x2 x3 x4 => by
      have x5 : x ≠ 5693 := fun e => x0 (by unfold scr; omega)
      rw [hm7, upd_n (by omega), upd_n (by omega), upd_n (by omega), t3 _ (by omega), hm5, upd_n (by omega), d4 x x0]
    have g7 : Mr 5824 S' D' m7 := Mr.ag (show Mr 5824 S' D' m6 from t2) (fun x a1 a2 => by rw [hm7, upd_n (by omega), upd_n (by omega), upd_n (by omega)])
    refine ⟨m7, ok0 kc km ?_, S', D', n, f, 0, 0, F, fun _ => 0, G, ⟨?_, g7, v1.le (by omega)⟩, h2.ag (fun x hx => ?_), ⟨?_, ?_, ?_, by omega, by omega, fun j hj => absurd hj (by omega)⟩, fun s hs => ?_⟩
    · rw [hm7, upd_n (by omega), upd_n (by omega), upd_n (by omega), t3 _ (by omega), hm5, upd_s]
    · exact Cx.ag c2 v1.1.1 (fun x a1 a2 a3 => f7 x (by unfold scr; omega) (by omega) (by omega) (by omega) (by omega))
    · rw [f7 x (by unfold scr; omega) (by omega) (by omega) (by omega) (by omega), f3 x (by omega)]
    · rw [f7 _ (by unfold scr; omega) (by omega) (by omega) (by omega) (by omega), c3 _ (by omega), hm2, upd_n (by omega), upd_n (by omega), hm1, upd_n (by omega), upd_s]
      exact n0
    · rw [f7 _ (by unfold scr; omega) (by omega) (by omega) (by omega) (by omega), c3 _ (by omega), hm2, upd_n (by omega), upd_n (by omega), hm1, upd_s]
      exact n0
    · rw [hm7, upd_n (by omega), upd_n (by omega), upd_s]
      exact n0
    · refine ⟨?_, ?_, Nat.zero_le _, fun e => absurd (show (0 : Nat) = 1 from e) (by decide)⟩
      · rw [f7 _ (by unfold scr; omega) (by omega) (by omega) (by omega) (by omega), c3 _ (by omega)]
        rcases (show s = 0 ∨ s = 1 by omega) with q | q <;> subst q
        · rw [hm2, upd_n (by omega), upd_s]
          exact n0
        · rw [hm2, upd_s]
          exact n0
      · rcases (show s = 0 ∨ s = 1 by omega) with q | q <;> subst q
        · rw [hm7, upd_n (by omega), upd_s]
          exact n0
        · rw [hm7, upd_s]
          exact n0
