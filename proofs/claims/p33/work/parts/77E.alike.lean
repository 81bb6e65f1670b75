/-! two that are alike answer alike; what the looks answer -/
section AK
variable {P : gS → Int32 → Prop} {t : gT} {K : Int32 → gS × Nat → Option (gS × Int32)}
theorem al_L {v2 : Int32} : ∀ (f j k c : Nat), k + j = 13 → j < f → c + 12 * j ≤ 200 → (∀ c', c' ≤ 200 → Ok (K 1 ((t, t), c')) P) → Ok (fL_alike_L36 0 5693 v2 K f 1 (i3 k) ((t, t), c)) P := by
  intro f
  induction f with
  | zero => intro j k c h1 h2; omega
  | succ f ih =>
    intro j k c hj hf hc hk
    unfold fL_alike_L36
    by_cases q : 13 ≤ k
    · refine ok_T (by rw [n13, i3le (by omega) (by omega)]; exact q) ?_
      exact hk c (by omega)
    · refine ok_F (by rw [n13, i3le (by omega) (by omega)]; exact q) ?_
      refine ok_F (by decide) ?_
      refine ok_c (eQ (s := (t, t)) gsel0 sp2) (by omega) ?_
      refine ok_c (eQ (s := (t, t)) gsel1 sp2) (by omega) ?_
      refine ok_T rfl ?_
      refine ok_c (eQ (s := (t, t)) gsel0 sp3) (by omega) ?_
      refine ok_c (eQ (s := (t, t)) gsel1 sp3) (by omega) ?_
      refine ok_T rfl ?_
      refine ok_c (eQ (s := (t, t)) gsel0 sp4) (by omega) ?_
      refine ok_c (eQ (s := (t, t)) gsel1 sp4) (by omega) ?_
      refine ok_T rfl ?_
      refine ok_c (eQ (s := (t, t)) gsel0 sp5) (by omega) ?_
      refine ok_c (eQ (s := (t, t)) gsel1 sp5) (by omega) ?_
      refine ok_T rfl ?_
      refine ok_c (eQ (s := (t, t)) gsel0 sp6) (by omega) ?_
      refine ok_c (eQ (s := (t, t)) gsel1 sp6) (by omega) ?_
      refine ok_T rfl ?_
      refine ok_c (eQ (s := (t, t)) gsel0 sp8) (by omega) ?_
      refine ok_c (eQ (s := (t, t)) gsel1 sp8) (by omega) ?_
      refine ok_lT rfl ?_
      refine ok_j (fun x hx => ?_)
      rw [n1, i3a] at hx
      subst hx
      exact ih (j - 1) (k + 1) _ (by omega) (by omega) (by omega) hk
end AK
theorem e_alike (t : gT) (v : Int32) : aL_alike 0 5693 v (t, t) = some ((t, t), 1) := by
  refine ok_eq ?_
  unfold aL_alike aL_alikeB
  refine ok_c (s1 := (t, t)) (v := qSim t v.toInt64 (1 + (v - v / 30 * 30))) rfl (by omega) ?_
  refine ok_c (s1 := (t, t)) (v := qSim t v.toInt64 (1 + (v - v / 30 * 30))) rfl (by omega) ?_
  refine ok_lT rfl ?_
  refine ok_l ?_
  refine al_L gFU 13 0 _ rfl (by show 13 < 5000; omega) (by omega) (fun c' h => ?_)
  exact ok_b1 (ok_r h ⟨rfl, rfl⟩)
section QL
variable {a c k : Nat} {s : gS} {t : gT} {w x y z : Int32}
theorem eV {v0 v : Int32} (hs : gsel a s = t) (e : sp w x y z t = some (t, v0)) (hv : v0 = v) : aL_call a w x y z s = some (s, v) := eQ hs (by rw [e, hv])
theorem wiB {k b : Nat} (h : k ≤ b) (hb : b < 2147483648) : wi (i3 k) 0 b = true := wiT (a := 0) (b := b) (by omega) (by omega) h
theorem q_ord (hc : c < t.1.1.1 0) (hn : t.1.1.1 0 ≤ 10) (hk : k < 7) : qOrd t (i3 c) (i3 k) = i3 (t.1.1.2 c (1 + k)) := by
  unfold qOrd
  rw [if_pos (andT (hcT hc hn) (show wi (i3 k) 0 6 = true from wiB (b := 6) (by omega) (by omega))), nVi (by omega), nVi (by omega)]
theorem q_closed (hc : c < 4) (hk : k < 7) : qClosed t (i3 c) (i3 k) = i3 (t.1.1.1 (20 + 7 * c + k)) := by
  unfold qClosed
  rw [if_pos (andT (show wi (i3 c) 0 3 = true from wiB (b := 3) (by omega) (by omega)) (show wi (i3 k) 0 6 = true from wiB (b := 6) (by omega) (by omega))), nVi (by omega), nVi (by omega)]
theorem q_round (hk : k < 4) : qRound t (i3 k) = i3 (t.1.1.1 (16 + k)) := by
  unfold qRound
  rw [if_pos (show wi (i3 k) 0 3 = true from wiB (b := 3) (by omega) (by omega)), nVi (by omega)]
theorem q_set (hk : k < 5) : qSet t (i3 k) = i3 (t.1.1.1 (11 + k)) := by
  unfold qSet
  rw [if_pos (show wi (i3 k) 0 4 = true from wiB (b := 4) (by omega) (by omega)), nVi (by omega)]
theorem q_why (hc : c < t.1.1.1 0) (hn : t.1.1.1 0 ≤ 10) : qWhy t (i3 c) = whyV t.1.1 c := by
  unfold qWhy
  rw [if_pos (hcT hc hn), nVi (by omega)]
theorem q_clear (hc : c < t.1.1.1 0) (hn : t.1.1.1 0 ≤ 10) : qClear t (i3 c) = clr t.1 c 201 0 := by
  unfold qClear
  rw [if_pos (hcT hc hn), nVi (by omega)]
theorem q_credit (hc : c < t.1.1.1 0) (hn : t.1.1.1 0 ≤ 10) (hk : k ≤ 200) : qCredit t (i3 c) (i3 k) = i3 ((daysZ k t.1).2.2 c 8) := by
  unfold qCredit
  rw [if_pos (hcT hc hn), if_pos (show wi (i3 k) 0 200 = true from wiB (b := 200) hk (by omega)), nVi (by omega), nVi (by omega)]
theorem q_due {f n v : Nat} (hc : c < t.1.1.1 0) (hn : t.1.1.1 0 ≤ 10) (hf : f ≤ 999) (hk : n ≤ 500) (hv : v ≤ 1) : qDue t (i3 c) (i3 f) (i3 n) (i3 v) = i3 (sI (duS (t.1.1.2 c)) f n) := by
  unfold qDue
  rw [if_pos (hcT hc hn), if_pos (andT (show wi (i3 f) 0 999 = true from wiB (b := 999) hf (by omega)) (andT (show wi (i3 n) 0 500 = true from wiB (b := 500) hk (by omega)) (show wi (i3 v) 0 1 = true from wiB (b := 1) hv (by omega)))), nVi (by omega), nVi (by omega), nVi (by omega)]
theorem e_due {f n v : Nat} (hs : gsel a s = t) (hc : c < t.1.1.1 0) (hn : t.1.1.1 0 ≤ 10) (hf : f ≤ 999) (hk : n ≤ 500) (hv : v ≤ 1) : aL_dues a (i3 c) (i3 f) (i3 n) (i3 v) s = some (s, i3 (sI (duS (t.1.1.2 c)) f n)) := by
  unfold aL_dues
  rw [hs, q_due hc hn hf hk hv]
theorem q_oven (h1 : 1 ≤ k) (hk : k ≤ 60) : qOven t (i3 k) = i3 (lov t.1.1 k (t.1.1.1 1) 0) := by
  unfold qOven
  rw [if_pos (show wi (i3 k) 1 60 = true from wiT (a := 1) (b := 60) (by omega) h1 hk), nVi (by omega)]
theorem q_best (h1 : 1 ≤ k) (hk : k ≤ 30) : qBest t (i3 k) = (enc (bst t.1.1 t.1.2 k ordL none)).1 := by
  unfold qBest
  rw [if_pos (show wi (i3 k) 1 30 = true from wiT (a := 1) (b := 30) (by omega) h1 hk), nVi (by omega)]
theorem du_duS {S : gB} {c d : Nat} : duS (S.2 c) d = du S c d := rfl
end QL
