/-! memory: the program's ring and the reference's rows -/
def CM (g nx q : Nat) (F : Nat → gB × gB) (m : gM) : Prop := m (g + 1) = i3 q ∧ m (g + 2) = i3 nx ∧ ∀ j, j < q → Cb (g + 3 + 14 + 308 * rg nx q j) (F j).1 (F j).2 m
def nQ (q : Nat) : Nat := if q < 14 then q + 1 else 14
def nF (q : Nat) (F : Nat → gB × gB) (z : gB × gB) : Nat → gB × gB := fun j => if q < 14 then (if j = q then z else F j) else if j = 13 then z else F (j + 1)
theorem c_keep {B g b nx q : Nat} {F : Nat → gB × gB} {S D : gB} {m : gM} (h : CM g nx q F m) (hx : nx < 14) (hq : q ≤ 14) (hF : ∀ j, j < q → (F j).1.1 0 ≤ 10) (hb : Cb b S D m) (hI : Is B S) (hgb : b + 308 ≤ g) : ∃ m', fX2_keep g b m = some m' ∧ CM g ((nx + 1) % 14) (nQ q) (nF q F (S, D)) m' ∧ Cb b S D m' ∧ Fr g 4329 m m' := by
  obtain ⟨k1, k2, k3⟩ := h
  have hn := hI.1
  obtain ⟨m1, s1, s2, s3⟩ := c_copy (b := g + 3 + 14 + 308 * nx) (src := b) hb hI (by omega)
  have e2 : m1 (g + 2) = i3 nx := by rw [s3 _ (by omega)]; exact k2
  obtain ⟨m2, hm2⟩ : ∃ m2, m2 = upd m1 (g + 2) (i3 ((nx + 1) % 14)) := ⟨_, rfl⟩
  have e3 : m2 (g + 1) = i3 q := by rw [hm2, upd_n (by omega), s3 _ (by omega)]; exact k1
  have e4 : min (q + 1) 14 = nQ q := by
    unfold nQ
    split <;> omega
  have f1 : Fr g 3 m1 (upd m2 (g + 1) (i3 (nQ q))) := fun x hx => by rw [upd_n (by omega), hm2, upd_n (by omega)]
  refine ⟨upd m2 (g + 1) (i3 (nQ q)), ?_, ⟨?_, ?_, fun j hj => ?_⟩, ?_, fun x hx => ?_⟩
  · unfold fX2_keep
    rw [k2, gLtI, gElI hx (by omega), s1, gCvI, e2, gLtI, n1, i3a, n14, i3r (by omega) (by omega), gLtI, ← hm2]
    rw [← n1, n1, e3, gLtI, i3a, jminI (by omega) (by omega), gLtI, e4, gLtI]
  · rw [upd_s]
  · rw [upd_n (by omega), hm2, upd_s]
  · have hr := rg_lt ((nx + 1) % 14) (nQ q) j
    generalize upd m2 (g + 1) (i3 (nQ q)) = m3 at f1 ⊢
    unfold nF
    unfold nQ at hj hr ⊢
    by_cases c1 : q < 14
    · rw [if_pos c1] at hj hr ⊢
      rw [if_pos c1]
      by_cases c2 : j = q
      · rw [if_pos c2]
        have e : rg ((nx + 1) % 14) (q + 1) j = nx := by unfold rg; omega
        rw [e]
        exact Cx.fr s2 hn f1 (by omega)
      · rw [if_neg c2]
        have e : rg ((nx + 1) % 14) (q + 1) j = rg nx q j := by unfold rg; omega
        have e5 : rg nx q j ≠ nx := by unfold rg; omega
        have h14 := rg_lt nx q j
        rw [e]
        exact Cx.fr (Cx.fr (k3 j (by omega)) (hF j (by omega)) s3 (by omega)) (hF j (by omega)) f1 (by omega)
    · rw [if_neg c1] at hj hr ⊢
      rw [if_neg c1]
      have hq14 : q = 14 := by omega
      subst hq14
      by_cases c2 : j = 13
      · rw [if_pos c2]
        have e : rg ((nx + 1) % 14) 14 j = nx := by unfold rg; omega
        rw [e]
        exact Cx.fr s2 hn f1 (by omega)
      · rw [if_neg c2]
        have e : rg ((nx + 1) % 14) 14 j = rg nx 14 (j + 1) := by unfold rg; omega
        have e5 : rg nx 14 (j + 1) ≠ nx := by unfold rg; omega
        have h14 := rg_lt nx 14 (j + 1)
        rw [e]
        exact Cx.fr (Cx.fr (k3 (j + 1) (by omega)) (hF _ (by omega)) s3 (by omega)) (hF _ (by omega)) f1 (by omega)
  · exact Cx.fr (Cx.fr hb hn s3 (by omega)) hn f1 (by omega)
  · rw [f1 x (by omega), s3 x (by omega)]
theorem nF_iv {B q : Nat} {F : Nat → gB × gB} {z : gB × gB} (hq : q ≤ 14) (hz : Iv B z.1 z.2) (hv : ∀ j, j < q → Iv B (F j).1 (F j).2) : ∀ j, j < nQ q → Iv B (nF q F z j).1 (nF q F z j).2 := by
  intro j hj
  unfold nF
  unfold nQ at hj
  by_cases c1 : q < 14
  · rw [if_pos c1] at hj ⊢
    by_cases c2 : j = q
    · rw [if_pos c2]; exact hz
    · rw [if_neg c2]; exact hv j (by omega)
  · rw [if_neg c1] at hj ⊢
    by_cases c2 : j = 13
    · rw [if_pos c2]; exact hz
    · rw [if_neg c2]; exact hv _ (by omega)