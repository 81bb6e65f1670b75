/-! the reference's day -/
theorem m_L80 {a B : Nat} {S : gB} (hI : Is B S) (r19 r46 : Int32 → Int32 → gM → Option gM) : ∀ (f j c : Nat) (D : gB) (m : gM), c + j = S.1 0 → j < f → Mr a S D m → (∀ i, i < S.1 0 → D.2 i 8 ≤ 1000) → ∃ m', fX6_day_L80 a 258 r19 r46 f (i3 c) m = some m' ∧ Mr a (dayS S) ((List.range' c j).foldl (stP S) D) m' ∧ Fr a 258 m m' := by
  have hn := hI.1
  intro f
  induction f with
  | zero => intro j c D m h1 h2; omega
  | succ f ih =>
    intro j c D m h1 h2 h h3
    unfold fX6_day_L80
    rw [n0, m_rS h (by omega) (by omega), iLe (by omega) (by omega)]
    cases j with
    | zero =>
      rw [if_pos (by omega), n1, m_rS h (by omega) (by omega), i3a, gWrI (by omega) (by omega)]
      exact ⟨_, rfl, h.SH (by omega) (by omega), Fr.up (by omega) (by omega)⟩
    | succ j =>
      have hc : c < S.1 0 := by omega
      have h4 := h3 c hc
      obtain ⟨m1, e1, g1, f1⟩ := m_pb h hI hc (by omega)
      rw [if_neg (by omega), e1, gCvI, gLtI, n1, i3a]
      obtain ⟨m2, e2, g2, f2⟩ := ih j (c + 1) (stP S D c) m1 (by omega) (by omega) g1 (fun i hi => by
        obtain ⟨g, q1, q2, q3, q4, q5, q6, q7, q8⟩ := stP_spec S D c
        by_cases e : i = c
        · subst e
          rw [q6]
          omega
        · rw [q5 i e]
          exact h3 i hi)
      exact ⟨m2, e2, g2, f1.tr f2⟩
theorem rnd_at {B : Nat} {S : gB} (h : Is B S) {k : Nat} (hk : k < S.1 0) : ∃ c, c < S.1 0 ∧ (rnd S)[k]? = some c ∧ (rnd S).drop k = c :: (rnd S).drop (k + 1) := by
  have hl := rnd_len h
  have hk2 : k < (rnd S).length := by omega
  refine ⟨(rnd S)[k], (rnd_mem h _).mp (List.getElem_mem hk2), List.getElem?_eq_getElem hk2, List.drop_eq_getElem_cons hk2⟩
theorem m_rnd {a B k : Nat} {S D : gB} {m : gM} (h : Mr a S D m) (hI : Is B S) (hk : k < S.1 0) : ∃ c, c < S.1 0 ∧ fX6_inRound a 258 (i3 k) m = some (m, i3 c) ∧ (rnd S).drop k = c :: (rnd S).drop (k + 1) ∧ (rnd S)[k]? = some c := by
  obtain ⟨c, h1, h2, h3⟩ := rnd_at hI hk
  have hn := hI.1
  have h4 := m_inRound h hI (k := k) (by omega)
  rw [h2] at h4
  exact ⟨c, h1, h4, h3, h2⟩
theorem m_L46 {a B d : Nat} {S : gB} (hI : Is B S) (hd : d < 1000000) (r19 : Int32 → Int32 → gM → Option gM) : ∀ (f j k van : Nat) (D : gB) (m : gM), k + j = S.1 0 → j < f → van < 1000 → Mr a S D m → (∀ i, i < S.1 0 → D.2 i 8 ≤ 1000) → ∃ m', fX6_day_L46 a 258 (i3 d) r19 f (i3 van) (i3 k) m = some m' ∧ Mr a (dayS S) ((List.range' 0 (S.1 0)).foldl (stP S) (sH (((rnd S).drop k).foldl (stG S d) (D, van)).1 5 ((((rnd S).drop k).foldl (stG S d) (D, van)).1.1 5 + (((rnd S).drop k).foldl (stG S d) (D, van)).2))) m' ∧ Fr a 258 m m' := by
  have hn := hI.1
  have hl := rnd_len hI
  intro f
  induction f with
  | zero => intro j k van D m h1 h2; omega
  | succ f ih =>
    intro j k van D m h1 h2 hv h h3
    unfold fX6_day_L46
    rw [n0, m_rS h (by omega) (by omega), iLe (by omega) (by omega)]
    cases j with
    | zero =>
      rw [if_pos (by omega), n5, m_rD h (by omega) (by omega), i3a, gWrI (by omega) (by omega), List.drop_eq_nil_of_le (by omega)]
      have h5 := h.DH (i := 5) (v := D.1 5 + van) (by omega) (by omega)
      obtain ⟨m1, e1, g1, f1⟩ := m_L80 hI r19 (fX6_day_L46 a 258 (i3 d) r19 f) gFU (S.1 0) 0 _ _ (by omega) (by show S.1 0 < 5000; omega) h5 h3
      exact ⟨m1, e1, g1, (Fr.up (by omega) (by omega)).tr f1⟩
    | succ j =>
      obtain ⟨c, hc, e0, e1, -⟩ := m_rnd h hI (k := k) (by omega)
      have h4 := h3 c hc
      obtain ⟨m1, e2, g1, f1⟩ := m_gg h hI hc hd hv (by omega)
      rw [if_neg (by omega), e0, gClI, e2, gClI, gLtI, n1, i3a, e1, List.foldl_cons]
      obtain ⟨g, q1, q2, q3, q4, q5, q6, q7, q8, q9⟩ := stG_spec S d D van c
      obtain ⟨m2, e3, g2, f2⟩ := ih j (k + 1) (stG S d (D, van) c).2 (stG S d (D, van) c).1 m1 (by omega) (by omega) (by omega) g1 (fun i hi => by
        by_cases e : i = c
        · subst e
          rw [q7]
          omega
        · rw [q6 i e]
          exact h3 i hi)
      exact ⟨m2, e3, g2, f1.tr f2⟩
theorem m_L19 {a B d : Nat} {S : gB} (hI : Is B S) (hd : d < 1000000) : ∀ (f j k van : Nat) (D : gB) (m : gM), k + j = S.1 0 → j < f → van < 1000 → Mr a S D m → (∀ i, i < S.1 0 → D.2 i 8 ≤ 1000 - 9 * j) → ∃ m', fX6_day_L19 a 258 (i3 d) f (i3 van) (i3 k) m = some m' ∧ Mr a (dayS S) ((List.range' 0 (S.1 0)).foldl (stP S) (sH ((rnd S).foldl (stG S d) (((rnd S).drop k).foldl (stD S d) (D, van))).1 5 (((rnd S).foldl (stG S d) (((rnd S).drop k).foldl (stD S d) (D, van))).1.1 5 + ((rnd S).foldl (stG S d) (((rnd S).drop k).foldl (stD S d) (D, van))).2))) m' ∧ Fr a 258 m m' := by
  have hn := hI.1
  have hl := rnd_len hI
  intro f
  induction f with
  | zero => intro j k van D m h1 h2; omega
  | succ f ih =>
    intro j k van D m h1 h2 hv h h3
    unfold fX6_day_L19
    rw [n0, m_rS h (by omega) (by omega), iLe (by omega) (by omega)]
    cases j with
    | zero =>
      rw [if_pos (by omega), List.drop_eq_nil_of_le (by omega)]
      obtain ⟨m1, e1, g1, f1⟩ := m_L46 hI hd (fX6_day_L19 a 258 (i3 d) f) gFU (S.1 0) 0 van D m (by omega) (by show S.1 0 < 5000; omega) hv h (fun i hi => by have := h3 i hi; omega)
      rw [List.drop_zero] at g1
      exact ⟨m1, e1, g1, f1⟩
    | succ j =>
      obtain ⟨c, hc, e0, e1, -⟩ := m_rnd h hI (k := k) (by omega)
      have h4 := h3 c hc
      obtain ⟨m1, e2, g1, f1⟩ := m_gd h hI hc hd hv
      rw [if_neg (by omega), e0, gClI, e2, gClI, gLtI, n1, i3a, e1, List.foldl_cons]
      obtain ⟨g, mi, la, q1, q2, q3, q4, q5, q6, q7, q8, q9, q10, q11, q12, q13⟩ := stD_spec S d D van c
      have hdu := du_le (d := d) hI hc
      obtain ⟨m2, e3, g2, f2⟩ := ih j (k + 1) (stD S d (D, van) c).2 (stD S d (D, van) c).1 m1 (by omega) (by omega) (by omega) g1 (fun i hi => by
        by_cases e : i = c
        · subst e
          rw [q9]
          omega
        · rw [q8 i e]
          have := h3 i hi
          omega)
      exact ⟨m2, e3, g2, f1.tr f2⟩
theorem m_day {a B : Nat} {S D : gB} {m : gM} (h : Mr a S D m) (hI : Iv B S D) (hB : B < 1000000) : ∃ m', fX6_day a 258 m = some m' ∧ Mr a (dayS S) (dayD S D) m' ∧ Fr a 258 m m' := by
  have hn := hI.1.1
  have hd := hI.1.2.1
  have hb := bk_le (d := S.1 1) hI.1
  unfold fX6_day
  rw [n1, m_rS h (by omega) (by omega), m_bk h hI.1 (by omega), gClI, n2, m_rD h (by omega) (by omega), i3a, m_wD h (by omega) (by omega)]
  have h1 := h.DH (i := 2) (v := D.1 2 + bk S (S.1 1)) (by omega) (by omega)
  obtain ⟨m1, e1, g1, f1⟩ := m_L19 hI.1 (d := S.1 1) (by omega) gFU (S.1 0) 0 (bk S (S.1 1)) _ _ (by omega) (by show S.1 0 < 5000; omega) (by omega) h1 (fun i hi => by have := hI.2.1 i hi; show D.2 i 8 ≤ _; omega)
  rw [n0]
  refine ⟨m1, e1, ?_, (Fr.up (by omega) (by omega)).tr f1⟩
  rw [List.drop_zero, ← List.range_eq_range'] at g1
  exact g1
theorem Is.day {B : Nat} {S : gB} (h : Is B S) : Is (B + 1) (dayS S) := by
  obtain ⟨h0, h1, h2, h3, h4, h5⟩ := h
  refine ⟨?_, ?_, ?_, ?_, ?_, ?_⟩
  · simpa [dayS, sH, up] using h0
  · simpa [dayS, sH, up] using h1
  · simpa [dayS, sH, up] using h2
  · simpa [dayS, sH, up] using h3
  · intro i hi
    have := h4 i hi
    have e : (dayS S).1 (20 + i) = S.1 (20 + i) := up_n (by omega)
    rw [e]
    exact this
  · exact h5
theorem Iv.day {B : Nat} {S D : gB} (h : Iv B S D) : Iv (B + 1) (dayS S) (dayD S D) := ⟨h.1.day, (dayD_spec h.1 h.2).1⟩
theorem Iv.le {B B' : Nat} {S D : gB} (h : Iv B S D) (hb : B ≤ B') : Iv B' S D := ⟨⟨h.1.1, Nat.le_trans h.1.2.1 hb, h.1.2.2⟩, h.2⟩
theorem daysZ_S : ∀ (n : Nat) (z : gB × gB), daysZ (n + 1) z = (dayS (daysZ n z).1, dayD (daysZ n z).1 (daysZ n z).2)
  | 0, _ => rfl
  | n + 1, z => by
    show daysZ (n + 1) (dayS z.1, dayD z.1 z.2) = _
    rw [daysZ_S n]
    rfl
theorem Iv.days {B : Nat} {S D : gB} (h : Iv B S D) : ∀ n, Iv (B + n) (daysZ n (S, D)).1 (daysZ n (S, D)).2 ∧ (D.1 3 + D.1 4 ≤ (daysZ n (S, D)).2.1 3 + (daysZ n (S, D)).2.1 4 ∧ (daysZ n (S, D)).2.1 3 + (daysZ n (S, D)).2.1 4 ≤ D.1 3 + D.1 4 + 99 * n)
  | 0 => ⟨h, Nat.le_refl _, Nat.le_refl _⟩
  | n + 1 => by
    obtain ⟨i1, i2, i3⟩ := Iv.days h n
    rw [daysZ_S]
    obtain ⟨left, q1, q2, -⟩ := (dayD_spec i1.1 i1.2).2
    have hb := bk_le (d := (daysZ n (S, D)).1.1 1) i1.1
    exact ⟨i1.day, by show _ ≤ (dayD _ _).1 3 + (dayD _ _).1 4; omega, by show (dayD _ _).1 3 + (dayD _ _).1 4 ≤ _; omega⟩
/-- a run of days by the reference -/
theorem m_days {a B p : Nat} {S D : gB} {m : gM} (h : Mr a S D m) (hI : Iv B S D) (hB : B + 1000 < 1000000) (hp : p ≤ 1000) : ∃ m', fX6_daysOn a 258 (i3 p) m = some (m', i3 ((daysZ p (S, D)).2.1 3 + (daysZ p (S, D)).2.1 4) - i3 (D.1 3 + D.1 4)) ∧ Mr a (daysZ p (S, D)).1 (daysZ p (S, D)).2 m' ∧ Fr a 258 m m' := by
  have L : ∀ (f k : Nat) (m : gM), k ≤ p → p - k < f → Mr a (daysZ k (S, D)).1 (daysZ k (S, D)).2 m → ∃ m', fX6_daysOn_L10 a 258 (i3 p) (i3 (D.1 3 + D.1 4)) f (i3 k) m = some (m', i3 ((daysZ p (S, D)).2.1 3 + (daysZ p (S, D)).2.1 4) - i3 (D.1 3 + D.1 4)) ∧ Mr a (daysZ p (S, D)).1 (daysZ p (S, D)).2 m' ∧ Fr a 258 m m' := by
    intro f
    induction f with
    | zero => intro k m h1 h2; omega
    | succ f ih =>
      intro k m h1 h2 h
      unfold fX6_daysOn_L10
      rw [iLe (by omega) (by omega)]
      by_cases hk : p ≤ k
      · have e : k = p := by omega
        subst e
        rw [if_pos hk, n3, m_rD h (by omega) (by omega), n4, m_rD h (by omega) (by omega), i3a]
        exact ⟨m, rfl, h, Fr.rf⟩
      · rw [if_neg hk]
        have q := (hI.days k).1
        obtain ⟨m1, e1, g1, f1⟩ := m_day h q (by omega)
        rw [e1, gCvI, gLtI, n1, i3a]
        have e2 := daysZ_S k (S, D)
        obtain ⟨m2, e3, g2, f2⟩ := ih (k + 1) m1 (by omega) (by omega) (by rw [e2]; exact g1)
        exact ⟨m2, e3, g2, f1.tr f2⟩
  unfold fX6_daysOn
  rw [n3, m_rD h (by omega) (by omega), n4, m_rD h (by omega) (by omega), i3a, gLtI, n0]
  exact L gFU 0 m (by omega) (by show p - 0 < 5000; omega) h
