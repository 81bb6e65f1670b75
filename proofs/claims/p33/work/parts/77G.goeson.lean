/-! a day brings what was told of it -/
section GL
variable {c k : Nat} {u : gT} {z : gB × gB}
theorem g_told2 (e : u.1 = z) (hc : c < z.1.1 0) (hn : z.1.1 0 ≤ 10) : qTold u (i3 c) 2 = i3 (z.2.2 c 8) := by
  subst e
  exact q_told (k := 2) hc hn (by omega)
theorem g_told3 (e : u.1 = z) (hc : c < z.1.1 0) (hn : z.1.1 0 ≤ 10) : qTold u (i3 c) 3 = i3 (z.2.2 c 9) := by
  subst e
  exact q_told (k := 3) hc hn (by omega)
theorem g_told9 (e : u.1 = z) (hc : c < z.1.1 0) (hn : z.1.1 0 ≤ 10) : qTold u (i3 c) 9 = i3 (du z.1 c (z.1.1 1)) := by
  subst e
  exact q_told (k := 9) hc hn (by omega)
theorem g_ab (e : u.1 = z) (hk : k ≤ 12) : qAbout u (i3 k) = i3 (abN z.1 z.2 k) := by
  subst e
  exact q_about hk
theorem g_set (e : u.1 = z) (hk : k < 5) : qSet u (i3 k) = i3 (z.1.1 (11 + k)) := by
  subst e
  exact q_set hk
theorem g_cred (e : u.1 = z) (hc : c < z.1.1 0) (hn : z.1.1 0 ≤ 10) (hk : k ≤ 200) : qCredit u (i3 c) (i3 k) = i3 ((daysZ k z).2.2 c 8) := by
  subst e
  exact q_credit hc hn hk
theorem g_clear (e : u.1 = z) (hc : c < z.1.1 0) (hn : z.1.1 0 ≤ 10) : qClear u (i3 c) = clr z c 201 0 := by
  subst e
  exact q_clear hc hn
theorem g_why (e : u.1 = z) (hc : c < z.1.1 0) (hn : z.1.1 0 ≤ 10) : qWhy u (i3 c) = whyV z.1 c := by
  subst e
  exact q_why hc hn
theorem g_round (e : u.1 = z) (hk : k < 4) : qRound u (i3 k) = i3 (z.1.1 (16 + k)) := by
  subst e
  exact q_round hk
end GL
theorem g_waits {B n : Nat} {t u : gT} (hD : Dp t u 0) (hG : Gz B t.1) (hn : n ≤ 240) (hB : B + n ≤ 89900) : ∃ u' : gT, aL_waits 0 5693 (i3 n) (u, u) = some ((u', u'), 1) ∧ u'.1 = daysZ n t.1 ∧ Dp t u' (cl n) := by
  obtain ⟨e1, -, -⟩ := hD.z
  obtain ⟨u', h1, h2, h3⟩ := e_waits (t := t) (u := u) (j := 0) hn (by omega) (by rw [e1]; exact hG.1) hB hD
  rw [Nat.zero_add] at h3
  exact ⟨u', h1, by rw [h2, e1], h3⟩
theorem g_undoes {n : Nat} {t u : gT} (hl : t.2.1.length ≤ 14) (hn : n ≤ 240) (hD : Dp t u (cl n)) : ∃ u' : gT, aL_undoes 0 5693 (i3 n) (u, u) = some ((u', u'), 1) ∧ u'.1 = t.1 ∧ Dp t u' 0 := by
  obtain ⟨u', h1, h2⟩ := e_undoes (t := t) (u := u) (n := n) (j := 0) hl hn (by omega) (by rw [Nat.zero_add]; exact hD)
  exact ⟨u', h1, h2.z.1, h2⟩
theorem daysNz {B : Nat} {z : gB × gB} (h : Gz B z) (k : Nat) : (daysZ k z).1.1 0 = z.1.1 0 := daysN (S := z.1) (D := z.2) h.1 k
/-- a day brings what was told of it; a credit is made good when that was told -/
theorem e_goesOn {B p : Nat} {t : gT} (h : Lv B t) (hB : B ≤ 900) (hp : p < 2147483648) : ∃ u : gT, aL_goesOn 0 5693 (i3 p) (t, t) = some ((u, u), 1) ∧ Dp t u 0 := by
  suffices hP : Ok (aL_goesOn 0 5693 (i3 p) (t, t)) (fun s' v' => v' = 1 ∧ ∃ u : gT, s' = (u, u) ∧ Dp t u 0) by
    obtain ⟨⟨s', v'⟩, h1, h2, u', h3, h4⟩ := hP
    dsimp only at h2 h3
    exact ⟨u', by rw [h1, h2, h3], h4⟩
  have hG := h.1
  have hI := hG.1.1
  have hn := hI.1
  have hn2 := h.2.1
  have hl := h.2.2.2.1
  obtain ⟨z, hz⟩ : ∃ z, z = t.1 := ⟨_, rfl⟩
  rw [← hz] at hG hI hn hn2
  unfold aL_goesOn aL_goesOnB
  refine ok_c (eV (s := (t, t)) (v := i3 (z.1.1 0)) gsel0 sp2 (g_ab (k := 0) hz.symm (by omega))) (by omega) ?_
  refine ok_d (fun q => ?_) ?_
  · have := (i3z (by omega)).mp q
    omega
  obtain ⟨c, hcd⟩ : ∃ c, c = p % z.1.1 0 := ⟨_, rfl⟩
  have hc : c < z.1.1 0 := by rw [hcd]; exact Nat.mod_lt _ (by omega)
  refine ok_j (fun x4 h4 => ?_)
  rw [i3r (by omega) (by omega), ← hcd] at h4
  subst h4
  obtain ⟨w, ew, w5, w0, wf, wn, -, -, -, -⟩ := why_all hI hc
  have hD8 : z.2.2 c 8 ≤ 30 := hG.1.2.1 c hc
  have hdu : du z.1 c (z.1.1 1) ≤ 9 := du_le hI hc
  have hdays : ∀ k, (daysZ k z).2.2 c 8 ≤ 30 := fun k => (hG.1.days k).1.2.1 c (by rw [show daysZ k (z.1, z.2) = daysZ k z from rfl, daysNz hG k]; exact hc)
  obtain ⟨da1, da2, ⟨kb, da3, da4⟩, -, -⟩ := day_all hI hG.1.2
  obtain ⟨da1, da1'⟩ := da1 c hc
  have hcn : ∀ k, c < (daysZ k z).1.1 0 := fun k => by rw [daysNz hG k]; exact hc
  have hnn : ∀ k, (daysZ k z).1.1 0 ≤ 10 := fun k => by rw [daysNz hG k]; exact hn
  have hW : ∀ (u : gT) (n : Nat), Dp t u 0 → n ≤ 240 → ∃ u' : gT, aL_waits 0 5693 (i3 n) (u, u) = some ((u', u'), 1) ∧ u'.1 = daysZ n z ∧ Dp t u' (cl n) := fun u n hD hn => by
    rw [hz]
    exact g_waits hD h.1 hn (by omega)
  have hU : ∀ (u : gT) (n : Nat), Dp t u (cl n) → n ≤ 240 → ∃ u' : gT, aL_undoes 0 5693 (i3 n) (u, u) = some ((u', u'), 1) ∧ u'.1 = z ∧ Dp t u' 0 := fun u n hD hn => by
    rw [hz]
    exact g_undoes hl hn hD
  refine ok_c (eV (s := (t, t)) gsel0 sp3 (g_told9 hz.symm hc hn)) (by omega) ?_
  refine ok_c (eV (s := (t, t)) gsel0 sp2 (g_ab (k := 12) hz.symm (by omega))) (by omega) ?_
  refine ok_c (eV (s := (t, t)) gsel0 sp17 ((g_why hz.symm hc hn).trans ew)) (by omega) ?_
  refine ok_c (eV (s := (t, t)) gsel0 sp3 (g_told3 hz.symm hc hn)) (by omega) ?_
  refine ok_c (eV (s := (t, t)) gsel0 sp3 (g_told2 hz.symm hc hn)) (by omega) ?_
  refine ok_c (eV (s := (t, t)) gsel0 sp2 (g_ab (k := 8) hz.symm (by omega))) (by omega) ?_
  refine ok_c (eV (s := (t, t)) gsel0 sp2 (g_ab (k := 9) hz.symm (by omega))) (by omega) ?_
  refine ok_c (eV (s := (t, t)) gsel0 sp2 (g_ab (k := 7) hz.symm (by omega))) (by omega) ?_
  refine ok_c (eV (s := (t, t)) gsel0 sp8 (g_set (k := 4) hz.symm (by omega))) (by omega) ?_
  refine ok_c (eV (s := (t, t)) gsel0 sp18 (g_cred (k := 1) hz.symm hc hn (by omega))) (by omega) ?_
  obtain ⟨u1, a1, a2, a3⟩ := hW t 1 Dp.rf (by omega)
  refine ok_c a1 (by omega) ?_
  refine ok_c (eV (s := (u1, u1)) gsel0 sp3 (g_told3 a2 (hcn 1) (hnn 1))) (by omega) ?_
  obtain ⟨g, hg⟩ : ∃ g, g = gtV z.1 (z.1.1 1) (lbf z.1 (z.1.1 1) c (rnd z.1) (bk z.1 (z.1.1 1))) c := ⟨_, rfl⟩
  rw [← hg] at da1 w0 wf wn
  have hg9 : g ≤ 9 := by
    have := (gtV_le (S := z.1) (d := z.1.1 1) (lbf z.1 (z.1.1 1) c (rnd z.1) (bk z.1 (z.1.1 1))) c).1
    rw [← hg] at this
    unfold opf at this
    split at this <;> omega
  have e9 : (daysZ 1 z).2.2 c 9 = z.2.2 c 9 + g := da1
  have e8 : (daysZ 1 z).2.2 c 8 ≤ z.1.1 14 := da1'
  have hs14 : z.1.1 14 ≤ 30 := hI.2.2.1.2.2.2.1
  refine ok_j (fun x41 h41 => ?_)
  rw [e9, i3s (by omega), show z.2.2 c 9 + g - z.2.2 c 9 = g by omega] at h41
  subst h41
  refine ok_j (fun k44 h44 => ?_)
  have H44 : ∀ (u : gT) (m : Nat), Dp t u 0 → m ≤ 100 → Ok (k44 1 ((u, u), m)) (fun s' v' => v' = 1 ∧ ∃ u : gT, s' = (u, u) ∧ Dp t u 0) := by
    intro u m hD hm
    have hu : u.1 = z := hD.z.1.trans hz.symm
    refine ok_k1 h44 ?_
    refine ok_c (eV (s := (u, u)) gsel0 sp19 (g_clear hu hc hn)) (by omega) ?_
    obtain ⟨go, x47, ex, g1, g2, g3, g4⟩ : ∃ (go : Nat) (x47 : Int32), clr z c 201 0 = x47 ∧ (if x47 = (-1) then 90 else x47 : Int32) = i3 go ∧ go ≤ 200 ∧ ((if (daysZ go z).2.2 c 8 = 0 then (1 : Int32) else 0) = if x47 = (-1) then 0 else 1) ∧ (1 < go → (daysZ (go - 1) z).2.2 c 8 ≠ 0) := by
      rcases clr_all z c 201 0 with ⟨r, r1, r2, r3, r4, r5⟩ | ⟨r3, r5⟩
      · refine ⟨r, _, rfl, ?_, by omega, ?_, fun q => r5 (r - 1) (by omega) (by omega)⟩
        · rw [r3, if_neg (i3nm (by omega))]
        · rw [r3, if_neg (i3nm (by omega)), if_pos r4]
      · refine ⟨90, _, rfl, ?_, by omega, ?_, fun q => r5 89 (by omega) (by omega)⟩
        · rw [r3]
          rfl
        · rw [r3, if_neg (r5 90 (by omega) (by omega)), if_pos rfl]
    rw [ex]
    refine ok_j (fun x49 h49 => ?_)
    rw [g1] at h49
    subst h49
    refine ok_j (fun k54 h54 => ?_)
    have H54 : ∀ (u : gT) (m : Nat), Dp t u 0 → m ≤ 140 → Ok (k54 1 ((u, u), m)) (fun s' v' => v' = 1 ∧ ∃ u : gT, s' = (u, u) ∧ Dp t u 0) := by
      intro u m hD hm
      refine ok_k1 h54 ?_
      refine ok_j (fun k58 h58 => ?_)
      have H58 : ∀ (u : gT) (m : Nat), Dp t u 0 → m ≤ 180 → Ok (k58 1 ((u, u), m)) (fun s' v' => v' = 1 ∧ ∃ u : gT, s' = (u, u) ∧ Dp t u 0) := by
        intro u m hD hm
        have hu : u.1 = z := hD.z.1.trans hz.symm
        refine ok_k1 h58 ?_
        refine ok_j (fun x60 h60 => ?_)
        obtain ⟨k, hk⟩ : ∃ k, k = p / 10 % 60 := ⟨_, rfl⟩
        have hk60 : k < 60 := by omega
        rw [n10, i3d (by omega) (by omega), n60, i3r (by omega) (by omega), ← hk] at h60
        subst h60
        refine ok_c (eV (s := (u, u)) gsel0 sp18 (g_cred hu hc hn (by omega))) (by omega) ?_
        refine ok_F (by decide) ?_
        obtain ⟨v1, b1, b2, b3⟩ := hW u k hD (by omega)
        refine ok_c b1 (by omega) ?_
        refine ok_F (by decide) ?_
        refine ok_c (eV (s := (v1, v1)) gsel0 sp3 (g_told2 b2 (hcn k) (hnn k))) (by omega) ?_
        refine ok_T rfl ?_
        obtain ⟨v2, c1, c2, c3⟩ := hU v1 k b3 (by omega)
        refine ok_c c1 (by omega) ?_
        refine ok_F (by decide) ?_
        refine ok_c (eV (s := (v2, v2)) gsel0 sp3 (g_told2 c2 hc hn)) (by omega) ?_
        refine ok_T rfl ?_
        exact ok_b1 (ok_r (by omega) ⟨rfl, v2, rfl, c3⟩)
      by_cases q : go ≤ 1
      · exact ok_T (by rw [n1, i3le (by omega) (by omega)]; exact q) (H58 u m hD (by omega))
      · refine ok_F (by rw [n1, i3le (by omega) (by omega)]; exact q) ?_
        refine ok_F (by decide) ?_
        rw [show i3 go - 1 = i3 (go - 1) by rw [n1, i3s (by omega)]]
        obtain ⟨v1, b1, b2, b3⟩ := hW u (go - 1) hD (by omega)
        refine ok_c b1 (by omega) ?_
        refine ok_F (by decide) ?_
        refine ok_c (eV (s := (v1, v1)) gsel0 sp3 (g_told2 b2 (hcn _) (hnn _))) (by omega) ?_
        refine ok_F (fun r => g4 (by omega) ((i3le0 (by have := hdays (go - 1); omega)).mp r)) ?_
        obtain ⟨v2, c1, c2, c3⟩ := hU v1 (go - 1) b3 (by omega)
        refine ok_c c1 (by omega) ?_
        refine ok_lF (by decide) ?_
        exact H58 v2 _ c3 (by omega)
    refine ok_F (by decide) ?_
    obtain ⟨v1, b1, b2, b3⟩ := hW u go hD (by omega)
    refine ok_c b1 (by omega) ?_
    refine ok_F (by decide) ?_
    refine ok_c (eV (s := (v1, v1)) gsel0 sp3 (g_told2 b2 (hcn _) (hnn _))) (by omega) ?_
    refine ok_l ?_
    refine ok_l ?_
    refine ok_T ?_ ?_
    · rw [← g3]
      exact iz1 (i3z (by have := hdays go; omega))
    · obtain ⟨v2, c1, c2, c3⟩ := hU v1 go b3 (by omega)
      refine ok_c c1 (by omega) ?_
      refine ok_F (by decide) ?_
      exact H54 v2 _ c3 (by omega)
  refine ok_F (by decide) ?_
  refine ok_j (fun k104 h104 => ?_)
  have st := daysZ_st 1 z
  have H104 : Ok (k104 ((u1, u1), 0 + 1 + 1 + 1 + 1 + 1 + 1 + 1 + 1 + 1 + 1 + 1 + 12 + 1)) (fun s' v' => v' = 1 ∧ ∃ u : gT, s' = (u, u) ∧ Dp t u 0) := by
    refine ok_k0 h104 ?_
    refine ok_c (eV (s := (u1, u1)) gsel0 sp3 (g_told2 a2 (hcn 1) (hnn 1))) (by omega) ?_
    refine ok_T rfl ?_
    refine ok_c (eV (s := (u1, u1)) gsel0 sp2 (g_ab (k := 8) a2 (by omega))) (by omega) ?_
    refine ok_T ?_ ?_
    · show i3 ((daysZ 1 z).2.1 7) = i3 (z.2.1 7) + i3 (z.1.1 15) * i3 (aldu z.1 (z.1.1 1))
      rw [i3m, i3a, show (daysZ 1 z).2.1 7 = _ from da2, Nat.mul_comm]
    refine ok_c (eV (s := (u1, u1)) gsel0 sp2 (g_ab (k := 9) a2 (by omega))) (by omega) ?_
    refine ok_c (eV (s := (u1, u1)) gsel0 sp2 (g_ab (k := 7) a2 (by omega))) (by omega) ?_
    refine ok_T ?_ ?_
    · show i3 ((daysZ 1 z).2.1 8) = i3 (z.2.1 8) + i3 (z.1.1 15) * (i3 ((daysZ 1 z).2.1 6) - i3 (z.2.1 6))
      rw [show (daysZ 1 z).2.1 8 = _ from da4, show (daysZ 1 z).2.1 6 = _ from da3, i3s (by omega), show z.2.1 6 + kb - z.2.1 6 = kb by omega, i3m, i3a, Nat.mul_comm]
    refine ok_c (eV (s := (u1, u1)) gsel0 sp8 ((g_set (k := 3) a2 (by omega)).trans (congrArg i3 (st.2.1 14 (by omega))))) (by omega) ?_
    refine ok_F (by rw [i3lt (by omega) (by omega)]; omega) ?_
    obtain ⟨v2, c1, c2, c3⟩ := hU u1 1 a3 (by omega)
    refine ok_c c1 (by omega) ?_
    refine ok_F (by decide) ?_
    refine ok_c (eV (s := (v2, v2)) gsel0 sp3 (g_told2 c2 hc hn)) (by omega) ?_
    refine ok_T rfl ?_
    exact H44 v2 _ c3 (by omega)
  by_cases q0 : w = 0
  · obtain ⟨k1, k2⟩ := w0 q0
    refine ok_T ((i3z (by omega)).mpr q0) ?_
    refine ok_T (by rw [k1]) ?_
    exact ok_F (fun r => by have := (i3le0 (by omega)).mp r; omega) H104
  · refine ok_F (fun r => q0 ((i3z (by omega)).mp r)) ?_
    by_cases q5 : w = 5
    · obtain ⟨k1, k2⟩ := wf q5
      refine ok_T (by rw [q5]; rfl) ?_
      refine ok_F (fun r => by have := (i3le0 (by omega)).mp r; omega) ?_
      exact ok_F (by rw [i3le (by omega) (by omega)]; omega) H104
    · refine ok_F (by rw [n5, i3e (by omega) (by omega)]; exact q5) ?_
      exact ok_T ((i3z (by omega)).mpr (wn q0 q5)) H104
