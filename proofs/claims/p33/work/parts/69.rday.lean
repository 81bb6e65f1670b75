/-! the reference's day -/
theorem rnd_at {B : Nat} {S : gB} (h : Is B S) {k : Nat} (hk : k < S.1 0) : ∃ c, c < S.1 0 ∧ (rnd S)[k]? = some c ∧ (rnd S).drop k = c :: (rnd S).drop (k + 1) := by
  have hl := rnd_len h
  have hk2 : k < (rnd S).length := by omega
  refine ⟨(rnd S)[k], (rnd_mem h _).mp (List.getElem_mem hk2), List.getElem?_eq_getElem hk2, List.drop_eq_getElem_cons hk2⟩
theorem Is.day {B : Nat} {S : gB} (h : Is B S) : Is (B + 1) (dayS S) := by
  obtain ⟨h0, h1, h2, h3, h4, h5⟩ := h
  refine ⟨?_, ?_, ?_, ?_, ?_, ?_⟩
  · simpa [dayS, sH, up] using h0
  · simpa [dayS, sH, up] using h1
  · simpa [dayS, sH, up] using h2
  · simpa [dayS, sH, up] using h3
  · intro i hi
    have := h4 i hi
    have e : (dayS S).1 (20 + i) = S.1 (20 + i) := up_n (by omega)
    rw [e]
    exact this
  · exact h5
theorem Iv.day {B : Nat} {S D : gB} (h : Iv B S D) : Iv (B + 1) (dayS S) (dayD S D) := ⟨h.1.day, (dayD_spec h.1 h.2).1⟩
theorem Iv.le {B B' : Nat} {S D : gB} (h : Iv B S D) (hb : B ≤ B') : Iv B' S D := ⟨⟨h.1.1, Nat.le_trans h.1.2.1 hb, h.1.2.2⟩, h.2⟩
theorem daysZ_S : ∀ (n : Nat) (z : gB × gB), daysZ (n + 1) z = (dayS (daysZ n z).1, dayD (daysZ n z).1 (daysZ n z).2)
  | 0, _ => rfl
  | n + 1, z => by
    show daysZ (n + 1) (dayS z.1, dayD z.1 z.2) = _
    rw [daysZ_S n]
    rfl
theorem Iv.days {B : Nat} {S D : gB} (h : Iv B S D) : ∀ n, Iv (B + n) (daysZ n (S, D)).1 (daysZ n (S, D)).2 ∧ (D.1 3 + D.1 4 ≤ (daysZ n (S, D)).2.1 3 + (daysZ n (S, D)).2.1 4 ∧ (daysZ n (S, D)).2.1 3 + (daysZ n (S, D)).2.1 4 ≤ D.1 3 + D.1 4 + 99 * n)
  | 0 => ⟨h, Nat.le_refl _, Nat.le_refl _⟩
  | n + 1 => by
    obtain ⟨i1, i2, i3⟩ := Iv.days h n
    rw [daysZ_S]
    obtain ⟨left, q1, q2, -⟩ := (dayD_spec i1.1 i1.2).2
    have hb := bk_le (d := (daysZ n (S, D)).1.1 1) i1.1
    exact ⟨i1.day, by show _ ≤ (dayD _ _).1 3 + (dayD _ _).1 4; omega, by show (dayD _ _).1 3 + (dayD _ _).1 4 ≤ _; omega⟩