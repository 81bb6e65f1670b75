/-! days that are waited for, and their undo -/
def Dp (t u : gT) (j : Nat) : Prop := u.2.2 = t.2.2 ∧ ∃ L H : List (gB × gB), L.length = j ∧ u.1 :: u.2.1 = L ++ t.1 :: H ∧ H <+: t.2.1
theorem Dp.rf {t : gT} : Dp t t 0 := ⟨rfl, [], t.2.1, rfl, rfl, List.prefix_rfl⟩
theorem Dp.push {t u : gT} {j : Nat} {z : gB × gB} (h : Dp t u j) (hj : j < 14) : Dp t (tpush u z) (j + 1) := by
  obtain ⟨h1, L, H, h2, h3, h4⟩ := h
  refine ⟨h1, z :: L, H.take (13 - j), by rw [List.length_cons, h2], ?_, (List.take_prefix _ _).trans h4⟩
  show z :: (u.1 :: u.2.1).take 14 = _
  rw [h3, List.take_append, List.take_of_length_le (by omega), h2, show 14 - j = (13 - j) + 1 by omega, List.take_succ_cons]
  rfl
theorem Dp.pop {t u : gT} {j : Nat} (h : Dp t u (j + 1)) (hl : t.2.1.length ≤ 14) (hj : j < 100) : ∃ (u' : gT) (l : Nat), pUndo u = (u', i3 l) ∧ l < 200 ∧ Dp t u' j ∧ u.2.1.head? = some u'.1 := by
  obtain ⟨h1, L, H, h2, h3, h4⟩ := h
  cases L with
  | nil => cases h2
  | cons z L =>
    rw [List.cons_append] at h3
    obtain ⟨e1, e2⟩ := List.cons.inj h3
    have hH := h4.length_le
    rw [List.length_cons] at h2
    have e3 : u.2.1.length ≤ 120 := by
      rw [e2, List.length_append, List.length_cons]
      omega
    cases hu : u.2.1 with
    | nil =>
      rw [hu] at e2
      cases L <;> cases e2
    | cons y l =>
      refine ⟨(y, l, u.2.2), l.length, by unfold pUndo; rw [hu], ?_, ⟨h1, L, H, by omega, ?_, h4⟩, rfl⟩
      · rw [hu, List.length_cons] at e3
        omega
      · show y :: l = _
        rw [← hu, e2]
theorem Dp.z {t u : gT} (h : Dp t u 0) : u.1 = t.1 ∧ u.2.2 = t.2.2 ∧ u.2.1 <+: t.2.1 := by
  obtain ⟨h1, L, H, h2, h3, h4⟩ := h
  cases L with
  | nil =>
    obtain ⟨e1, e2⟩ := List.cons.inj h3
    exact ⟨e1, h1, e2 ▸ h4⟩
  | cons z L => cases h2
def cl (n : Nat) : Nat := (n + 59) / 60
theorem gsel0 {t u : gT} : gsel 0 (t, u) = t := rfl
theorem gsel1 {t u : gT} : gsel 5693 (t, u) = u := rfl
theorem gput0 {t u v : gT} : gput 0 (t, u) v = (v, u) := rfl
theorem gput1 {t u v : gT} : gput 5693 (t, u) v = (t, v) := rfl
theorem e15 {a k : Nat} {s : gS} {u : gT} {y z : Int32} (hs : gsel a s = u) (hI : Iv 89900 u.1.1 u.1.2) (h1 : 1 ≤ k) (h2 : k ≤ 60) : ∃ g, g < 10000 ∧ aL_call a 15 (i3 k) y z s = some (gput a s (tpush u (daysZ k u.1)), i3 g) ∧ g = (daysZ k u.1).2.1 3 + (daysZ k u.1).2.1 4 - (u.1.2.1 3 + u.1.2.1 4) := by
  obtain ⟨-, d1, d2⟩ := hI.days k
  have d1' : u.1.2.1 3 + u.1.2.1 4 ≤ (daysZ k u.1).2.1 3 + (daysZ k u.1).2.1 4 := d1
  have d2' : (daysZ k u.1).2.1 3 + (daysZ k u.1).2.1 4 ≤ u.1.2.1 3 + u.1.2.1 4 + 99 * k := d2
  refine ⟨_, ?_, ?_, rfl⟩
  · omega
  · rw [eA hs (sp15 hI.1.2.1)]
    unfold pDays
    rw [tactO (fr3O rfl (show wi (i3 k) 1 60 = true from wiT (a := 1) (b := 60) (by omega) h1 h2) rfl), nVi (by omega), i3s d1']
theorem thr0 {l : Nat} {s : gS} (h : l < 1000) : aL_thrown (i3 l) s = some (s, 0) := by
  unfold aL_thrown
  have e : ∀ k : Int32, k.toInt < 0 → i3 l ≠ k := fun k hk q => by
    have := i3t (a := l) (by omega)
    rw [q] at this
    omega
  rw [if_neg (e _ (by decide)), if_neg (e _ (by decide)), if_neg (e _ (by decide))]
section WT
variable {P : gS → Int32 → Prop} {t : gT} {k : Int32 → gS × Nat → Option (gS × Int32)}
theorem m60 : (-60 : Int32) = -(i3 60) := by decide
theorem lft {n : Nat} (hn : n < 100000) : (60 < n ∧ i3 n + (-60) = i3 (n - 60)) ∨ (n ≤ 60 ∧ i3 n + (-60) ≤ 0) := by
  rw [m60]
  by_cases q : 60 < n
  · exact Or.inl ⟨q, i3an (by omega)⟩
  · refine Or.inr ⟨by omega, ?_⟩
    rw [← Int32.sub_eq_add_neg, i3sle (by omega) (by omega)]
    omega
theorem wt_L {B : Nat} : ∀ (f n : Nat) (v : Int32) (u : gT) (c j : Nat), n < f → n ≤ 1000 → ((0 < n ∧ v = i3 n) ∨ (n = 0 ∧ v ≤ 0)) → c + 2 * cl n ≤ 12 → j + cl n ≤ 14 → Iv B u.1.1 u.1.2 → B + n ≤ 89900 → Dp t u j → (∀ (u' : gT) (c' : Nat), c' ≤ 12 → u'.1 = daysZ n u.1 → Dp t u' (j + cl n) → Ok (k 1 ((u', u'), c')) P) → Ok (fL_waits_L5 0 5693 k f 1 v ((u, u), c)) P := by
  intro f
  induction f generalizing B with
  | zero => intro n v u c j h; omega
  | succ f ih =>
    intro n v u c j hf hn hv hc hj hI hB hD hk
    unfold fL_waits_L5
    rcases hv with ⟨h0, rfl⟩ | ⟨rfl, hv⟩
    · refine ok_F (by rw [n0, i3le (by omega) (by omega)]; omega) ?_
      refine ok_F (by decide) ?_
      have hcl : cl n = cl (n - 60) + 1 := by unfold cl; omega
      obtain ⟨p, hp⟩ : ∃ p, p = min n 60 := ⟨_, rfl⟩
      have ep : (if i3 n ≤ 60 then i3 n else 60 : Int32) = i3 p := by
        rw [n60, imin (by omega) (by omega), hp, Nat.min_comm]
      refine ok_j (fun x5 hx5 => ?_)
      rw [ep] at hx5
      subst hx5
      obtain ⟨g, g1, g2, g3⟩ := e15 (a := 0) (s := (u, u)) (y := 0) (z := 0) (k := p) gsel0 (hI.le (by omega)) (by omega) (by omega)
      rw [gput0] at g2
      obtain ⟨g', g1', g2', g3'⟩ := e15 (a := 5693) (s := (tpush u (daysZ p u.1), u)) (y := 0) (z := 0) (k := p) gsel1 (hI.le (by omega)) (by omega) (by omega)
      rw [gput1] at g2'
      have eg : g' = g := by rw [g3, g3']
      subst eg
      refine ok_c g2 (by omega) ?_
      refine ok_F (i3n (by omega)) ?_
      refine ok_c g2' (by omega) ?_
      refine ok_lT rfl ?_
      refine ok_l ?_
      have hI' := (hI.days p).1
      refine ih (B := B + p) (n - p) _ (tpush u (daysZ p u.1)) _ (j + 1) (by omega) (by omega) ?_ ?_ ?_ hI' (by omega) (hD.push (by omega)) ?_
      · rcases lft (n := n) (by omega) with ⟨q1, q2⟩ | ⟨q1, q2⟩
        · exact Or.inl ⟨by omega, by rw [q2, hp, Nat.min_eq_right (by omega)]⟩
        · exact Or.inr ⟨by omega, q2⟩
      · have : n - p = n - 60 := by omega
        rw [this]
        omega
      · have : n - p = n - 60 := by omega
        rw [this]
        omega
      · intro u' c' h1 h2 h3
        have e9 : n - p = n - 60 := by omega
        refine hk u' c' h1 ?_ ?_
        · rw [h2]
          show daysZ (n - p) (daysZ p u.1) = _
          rw [daysZ_add, show p + (n - p) = n by omega]
        · rw [e9] at h3
          rw [hcl, ← Nat.add_assoc, Nat.add_right_comm]
          exact h3
    · refine ok_T hv ?_
      exact hk u c (by omega) rfl hD
theorem ud_L (hl : t.2.1.length ≤ 14) : ∀ (f n : Nat) (v : Int32) (u : gT) (c j : Nat), n < f → n ≤ 1000 → ((0 < n ∧ v = i3 n) ∨ (n = 0 ∧ v ≤ 0)) → c + 2 * cl n ≤ 12 → j ≤ 14 → Dp t u (j + cl n) → (∀ (u' : gT) (c' : Nat), c' ≤ 12 → Dp t u' j → Ok (k 1 ((u', u'), c')) P) → Ok (fL_undoes_L5 0 5693 k f 1 v ((u, u), c)) P := by
  intro f
  induction f with
  | zero => intro n v u c j h; omega
  | succ f ih =>
    intro n v u c j hf hn hv hc hj hD hk
    unfold fL_undoes_L5
    rcases hv with ⟨h0, rfl⟩ | ⟨rfl, hv⟩
    · refine ok_F (by rw [n0, i3le (by omega) (by omega)]; omega) ?_
      refine ok_F (by decide) ?_
      have hcl : cl n = cl (n - 60) + 1 := by unfold cl; omega
      have hc17 : cl n ≤ 17 := by unfold cl; omega
      rw [hcl, ← Nat.add_assoc] at hD
      obtain ⟨u', l, p1, p2, p3, -⟩ := hD.pop hl (by omega)
      have g2 : aL_call 0 16 0 0 0 (u, u) = some ((u', u), i3 l) := by
        rw [eA gsel0 sp16, p1]
        rfl
      have g3 : aL_call 5693 16 0 0 0 (u', u) = some ((u', u'), i3 l) := by
        rw [eA gsel1 sp16, p1]
        rfl
      refine ok_c g2 (by omega) ?_
      refine ok_c (thr0 (by omega)) (by omega) ?_
      refine ok_T rfl ?_
      refine ok_c g3 (by omega) ?_
      refine ok_c (thr0 (by omega)) (by omega) ?_
      refine ok_lT rfl ?_
      refine ok_l ?_
      refine ih (n - 60) _ u' _ j (by omega) (by omega) ?_ (by omega) hj p3 hk
      rcases lft (n := n) (by omega) with ⟨q1, q2⟩ | ⟨q1, q2⟩
      · exact Or.inl ⟨by omega, q2⟩
      · exact Or.inr ⟨by omega, q2⟩
    · refine ok_T hv ?_
      exact hk u c (by omega) hD
end WT
/-- days that are waited for -/
theorem e_waits {B n j : Nat} {t u : gT} (hn : n ≤ 240) (hj : j ≤ 10) (hI : Iv B u.1.1 u.1.2) (hB : B + n ≤ 89900) (hD : Dp t u j) : ∃ u', aL_waits 0 5693 (i3 n) (u, u) = some ((u', u'), 1) ∧ u'.1 = daysZ n u.1 ∧ Dp t u' (j + cl n) := by
  have hcl : cl n ≤ 4 := by unfold cl; omega
  have K : Ok (aL_waits 0 5693 (i3 n) (u, u)) (fun s' v' => v' = 1 ∧ ∃ u' : gT, s' = (u', u') ∧ u'.1 = daysZ n u.1 ∧ Dp t u' (j + cl n)) := by
    unfold aL_waits aL_waitsB
    refine ok_l ?_
    refine wt_L gFU n _ u 0 j (by show n < 5000; omega) (by omega) ?_ (by omega) (by omega) hI hB hD ?_
    · by_cases q : n = 0
      · exact Or.inr ⟨q, by subst q; decide⟩
      · exact Or.inl ⟨by omega, rfl⟩
    · intro u' c' h1 h2 h3
      exact ok_b1 (ok_r h1 ⟨rfl, u', rfl, h2, h3⟩)
  obtain ⟨⟨s', v'⟩, h1, h2, u', h3, h4, h5⟩ := K
  dsimp only at h2 h3
  exact ⟨u', by rw [h1, h2, h3], h4, h5⟩
theorem e_undoes {n j : Nat} {t u : gT} (hl : t.2.1.length ≤ 14) (hn : n ≤ 240) (hj : j ≤ 10) (hD : Dp t u (j + cl n)) : ∃ u', aL_undoes 0 5693 (i3 n) (u, u) = some ((u', u'), 1) ∧ Dp t u' j := by
  have hcl : cl n ≤ 4 := by unfold cl; omega
  have K : Ok (aL_undoes 0 5693 (i3 n) (u, u)) (fun s' v' => v' = 1 ∧ ∃ u' : gT, s' = (u', u') ∧ Dp t u' j) := by
    unfold aL_undoes aL_undoesB
    refine ok_l ?_
    refine ud_L hl gFU n _ u 0 j (by show n < 5000; omega) (by omega) ?_ (by omega) (by omega) hD ?_
    · by_cases q : n = 0
      · exact Or.inr ⟨q, by subst q; decide⟩
      · exact Or.inl ⟨by omega, rfl⟩
    · intro u' c' h1 h3
      exact ok_b1 (ok_r h1 ⟨rfl, u', rfl, h3⟩)
  obtain ⟨⟨s', v'⟩, h1, h2, u', h3, h5⟩ := K
  dsimp only at h2 h3
  exact ⟨u', by rw [h1, h2, h3], h5⟩
