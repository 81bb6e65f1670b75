theorem c_week {q : Nat} {s t : Nat → Nat} {m : gM} (h : Cc q s t m) : fX1_loavesAWeek q m = some (m, i3 (sm (fun w => s (1 + w)) 7)) := by
  have L : ∀ (f k : Nat), k ≤ 7 → 7 - k < f → fX1_loavesAWeek_L4 q f (i3 (sm (fun w => s (1 + w)) k)) (i3 k) m = some (m, i3 (sm (fun w => s (1 + w)) 7)) := by
    intro f
    induction f with
    | zero => intro k h1 h2; omega
    | succ f ih =>
      intro k h1 h2
      unfold fX1_loavesAWeek_L4
      rw [n7, iLe (by omega) (by omega)]
      by_cases hk : 7 ≤ k
      · have e : k = 7 := by omega
        rw [if_pos hk, e]
      · rw [if_neg hk, h.rW (by omega)]
        simp only [gLtI, i3a, n1]
        exact ih (k + 1) (by omega) (by omega)
  unfold fX1_loavesAWeek
  exact L gFU 0 (by omega) (by show _ < 5000; omega)
/-- what a customer tells: 0 .. 8 -/
def cuN (s d : Nat → Nat) (p : Nat) : Nat := if p = 0 then s 0 else if p = 1 then sm (fun w => s (1 + w)) 7 else if p = 8 then s 14 else d (6 + p)
theorem c_num {q p : Nat} {s t : Nat → Nat} {m : gM} (h : Cc q s t m) (hp : p ≤ 8) : fX1_numberOf q (i3 p) m = some (m, i3 (cuN s t p)) := by
  unfold fX1_numberOf
  rw [c_week h, gClI, h.f0, h.f1, h.f2, h.f3, h.f4, h.f5, h.f6, h.f7]
  rcases (show p = 0 ∨ p = 1 ∨ p = 2 ∨ p = 3 ∨ p = 4 ∨ p = 5 ∨ p = 6 ∨ p = 7 ∨ p = 8 by omega) with r | r | r | r | r | r | r | r | r <;> subst r <;> rfl
theorem c_sum {b B hh p : Nat} {S D : gB} {m : gM} (h : Cx b S D hh m) (hI : Is B S) (hp : p ≤ 8) : fX0_sumOf b (i3 p) m = some (m, i3 (sm (fun c => cuN (S.2 c) (D.2 c) p) (S.1 0))) := by
  have hn := hI.1
  have L : ∀ (f k : Nat), k ≤ S.1 0 → S.1 0 - k < f → fX0_sumOf_L4 b (i3 p) f (i3 (sm (fun c => cuN (S.2 c) (D.2 c) p) k)) (i3 k) m = some (m, i3 (sm (fun c => cuN (S.2 c) (D.2 c) p) (S.1 0))) := by
    intro f
    induction f with
    | zero => intro k h1 h2; omega
    | succ f ih =>
      intro k h1 h2
      unfold fX0_sumOf_L4
      rw [h.h0, gLtI, iLe (by omega) (by omega)]
      by_cases hk : S.1 0 ≤ k
      · have e : k = S.1 0 := by omega
        rw [if_pos hk, e]
      · rw [if_neg hk, gEl10 (by omega), c_num (h.c (by omega)) hp, gClI]
        simp only [gLtI, i3a, n1]
        exact ih (k + 1) (by omega) (by omega)
  unfold fX0_sumOf
  exact L gFU 0 (by omega) (by show _ < 5000; omega)
theorem c_sums {b B hh : Nat} {S D : gB} {m : gM} (h : Cx b S D hh m) (hI : Iv B S D) : fX0_sumOf b 2 m = some (m, i3 (sm (fun c => D.2 c 8) (S.1 0))) ∧ fX0_sumOf b 3 m = some (m, i3 (D.1 3)) ∧ fX0_sumOf b 4 m = some (m, i3 (D.1 4)) ∧ fX0_sumOf b 5 m = some (m, i3 (D.1 6)) ∧ fX0_sumOf b 6 m = some (m, i3 (D.1 9)) ∧ fX0_sumOf b 7 m = some (m, i3 (D.1 10)) := by
  obtain ⟨-, k1, k2, k3, k4, k5⟩ := hI.2
  rw [k1, k2, k3, k4, k5]
  exact ⟨c_sum h hI.1 (p := 2) (by omega), c_sum h hI.1 (p := 3) (by omega), c_sum h hI.1 (p := 4) (by omega), c_sum h hI.1 (p := 5) (by omega), c_sum h hI.1 (p := 6) (by omega), c_sum h hI.1 (p := 7) (by omega)⟩
/-- what a book tells: 0 .. 12 -/
def abN (S D : gB) (p : Nat) : Nat := if p < 2 then S.1 p else if p < 6 then D.1 p else if p = 6 then sm (fun c => D.2 c 8) (S.1 0) else if p < 12 then D.1 (p - 1) else aldu S (S.1 1)
theorem c_about {b B p : Nat} {S D : gB} {m : gM} (h : Cb b S D m) (hI : Iv B S D) (hB : B < 1000000) (hp : p ≤ 12) : fX0_numberOf b (i3 p) m = some (m, i3 (abN S D p)) := by
  have hd := hI.1.2.1
  obtain ⟨s2, s3, s4, s5, s6, s7⟩ := c_sums h hI
  unfold fX0_numberOf
  rw [s2, s3, s4, s5, s6, s7, c_all h hI.1 (by omega), gClI, gClI, gClI, gClI, gClI, gClI, gClI, Cx.h0 h, Cx.h1 h, Cx.h2 h, Cx.h3 h, Cx.h4 h, Cx.h5 h]
  rcases (show p = 0 ∨ p = 1 ∨ p = 2 ∨ p = 3 ∨ p = 4 ∨ p = 5 ∨ p = 6 ∨ p = 7 ∨ p = 8 ∨ p = 9 ∨ p = 10 ∨ p = 11 ∨ p = 12 by omega) with r | r | r | r | r | r | r | r | r | r | r | r | r <;> subst r <;> rfl