/-! acts by the program -/
theorem Cx.cu {b c hh : Nat} {S D : gB} {m m' : gM} {s' : Nat → Nat} (h : Cx b S D hh m) (hc : c < S.1 0) (hn : S.1 0 ≤ 10) (hf : Fr (b + 11 + 57 + 24 * c) 24 m m') (hC : Cc (b + 11 + 57 + 24 * c) s' (D.2 c) m') : Cx b (cuS S c s') D hh m' := by
  refine ⟨⟨by rw [hf _ (by omega)]; exact h.h0, by rw [hf _ (by omega)]; exact h.h1, by rw [hf _ (by omega)]; exact h.h2, by rw [hf _ (by omega)]; exact h.h3, by rw [hf _ (by omega)]; exact h.h4, by rw [hf _ (by omega)]; exact h.h5⟩, fun i hi => by rw [hf _ (by omega)]; exact h.2.1 i hi, fun i hi => by rw [hf _ (by omega)]; exact h.2.2.1 i hi, fun i hi => by rw [hf _ (by omega)]; exact h.2.2.2.1 i hi, fun c' hc' => ?_⟩
  show Cc _ (up S.2 c s' c') _ _
  by_cases e : c' = c
  · subst e
    rw [up_s]
    exact hC
  · rw [up_n e]
    exact (h.c hc').fr hf (by omega)
theorem Cx.SH {b hh i v y : Nat} {S D : gB} {m : gM} (h : Cx b S D hh m) (hy : (20 ≤ i ∧ i < 48 ∧ y = b + 21 + (i - 20)) ∨ (16 ≤ i ∧ i < 20 ∧ y = b + 49 + (i - 16)) ∨ (11 ≤ i ∧ i < 16 ∧ y = b + 53 + (i - 11))) : Cx b (sH S i v) D hh (upd m y (i3 v)) := by
  have ev : ∀ k, k ≠ i → (sH S i v).1 k = S.1 k := fun k hk => up_n hk
  refine ⟨⟨?_, ?_, by rw [upd_n (by omega)]; exact h.h2, by rw [upd_n (by omega)]; exact h.h3, by rw [upd_n (by omega)]; exact h.h4, by rw [upd_n (by omega)]; exact h.h5⟩, fun k hk => ?_, fun k hk => ?_, fun k hk => ?_, fun c' hc' => ?_⟩
  · rw [upd_n (by omega), ev 0 (by omega)]; exact h.h0
  · rw [upd_n (by omega), ev 1 (by omega)]; exact h.h1
  · by_cases e : 20 + k = i
    · rw [show y = b + 21 + k from by omega, upd_s, e]
      show _ = i3 (up S.1 i v i)
      rw [up_s]
    · rw [upd_n (by omega), ev _ e]; exact h.2.1 k hk
  · by_cases e : 16 + k = i
    · rw [show y = b + 49 + k from by omega, upd_s, e]
      show _ = i3 (up S.1 i v i)
      rw [up_s]
    · rw [upd_n (by omega), ev _ e]; exact h.2.2.1 k hk
  · by_cases e : 11 + k = i
    · rw [show y = b + 53 + k from by omega, upd_s, e]
      show _ = i3 (up S.1 i v i)
      rw [up_s]
    · rw [upd_n (by omega), ev _ e]; exact h.2.2.2.1 k hk
  · rw [ev 0 (by omega)] at hc'
    exact (h.c hc').fr (a := b) (n := 58) (Fr.up (by omega) (by omega)) (by omega)
theorem Cx.nw {b hh st L : Nat} {S D : gB} {m m1 : gM} (h : Cx b S D hh m) (hn : S.1 0 < 10) (hf : Fr (b + 11 + 57 + 24 * S.1 0) 24 m m1) (hC : Cc (b + 11 + 57 + 24 * S.1 0) (nwR st L) (fun _ => 0) m1) : Cx b (nwS S st L) (nwD S D) hh (upd m1 (b + 0) (i3 (S.1 0 + 1))) := by
  have ev : ∀ k, k ≠ 0 → (nwS S st L).1 k = S.1 k := fun k hk => up_n hk
  refine ⟨⟨by rw [upd_s]; rfl, ?_, by rw [upd_n (by omega), hf _ (by omega)]; exact h.h2, by rw [upd_n (by omega), hf _ (by omega)]; exact h.h3, by rw [upd_n (by omega), hf _ (by omega)]; exact h.h4, by rw [upd_n (by omega), hf _ (by omega)]; exact h.h5⟩, fun k hk => ?_, fun k hk => ?_, fun k hk => ?_, fun c' hc' => ?_⟩
  · rw [upd_n (by omega), hf _ (by omega), ev _ (by omega)]; exact h.h1
  · rw [upd_n (by omega), hf _ (by omega), ev _ (by omega)]; exact h.2.1 k hk
  · rw [upd_n (by omega), hf _ (by omega), ev _ (by omega)]; exact h.2.2.1 k hk
  · rw [upd_n (by omega), hf _ (by omega), ev _ (by omega)]; exact h.2.2.2.1 k hk
  · have e0 : (nwS S st L).1 0 = S.1 0 + 1 := rfl
    rw [e0] at hc'
    show Cc _ (up S.2 (S.1 0) (nwR st L) c') (up D.2 (S.1 0) (fun _ => 0) c') _
    by_cases e : c' = S.1 0
    · subst e
      rw [up_s, up_s]
      exact hC.fr (a := b) (n := 58) (Fr.up (by omega) (by omega)) (by omega)
    · rw [up_n e, up_n e]
      exact ((h.c (c := c') (by omega)).fr hf (by omega)).fr (a := b) (n := 58) (Fr.up (by omega) (by omega)) (by omega)
theorem c_chg {b c w x hh : Nat} {S D : gB} {m : gM} (h : Cx b S D hh m) (hc : c < S.1 0) (hn : S.1 0 ≤ 10) (hw : w < 7) : ∃ m', fX1_putLoaves (b + 11 + 57 + 24 * c) (i3 w) (i3 x) m = some (m', i3 (S.2 c (1 + w))) ∧ Cx b (cuS S c (up (S.2 c) (1 + w) x)) D hh m' ∧ Fr b 308 m m' := by
  unfold fX1_putLoaves
  rw [(h.c hc).rW hw, gWrI (by omega) (by omega)]
  have f1 : Fr (b + 11 + 57 + 24 * c) 24 m (upd m (b + 11 + 57 + 24 * c + 11 + w) (i3 x)) := Fr.up (by omega) (by omega)
  refine ⟨_, rfl, h.cu hc hn f1 ?_, f1.sub (by omega) (by omega)⟩
  have g := h.c hc
  refine ⟨?_, fun i hi => by rw [upd_n (by omega)]; exact g.2.1 i hi, ?_, fun k hk => ?_, fun k hk hj => ?_⟩
  · rw [upd_n (by omega), up_n (by omega)]; exact g.1
  · rw [upd_n (by omega), up_n (by omega)]; exact g.2.2.1
  · by_cases e : k = w
    · rw [e, upd_s, up_s]
    · rw [upd_n (by omega), up_n (by omega)]; exact g.2.2.2.1 k hk
  · rw [up_n (by omega)] at hj
    rw [upd_n (by omega), upd_n (by omega), up_n (by omega), up_n (by omega)]
    exact g.2.2.2.2 k hk hj
theorem c_put {b i x hh : Nat} {S D : gB} {m : gM} (h : Cx b S D hh m) (hi : i < 5) : ∃ m', fX0_changeSetting b (i3 i) (i3 x) m = some (m', i3 (S.1 (11 + i))) ∧ Cx b (sH S (11 + i) x) D hh m' ∧ Fr b 308 m m' := by
  unfold fX0_changeSetting
  rw [h.rS hi, gWrI (by omega) (by omega)]
  exact ⟨_, rfl, h.SH (by omega), Fr.up (by omega) (by omega)⟩
theorem c_hol {b c x y hh : Nat} {S D : gB} {m : gM} (h : Cx b S D hh m) (hc : c < S.1 0) (hn : S.1 0 ≤ 10) (h3 : S.2 c 14 < 3) : ∃ m', fX1_addHoliday (b + 11 + 57 + 24 * c) (i3 x) (i3 y) m = some (m', i3 (S.2 c 14 + 1)) ∧ Cx b (cuS S c (hoR (S.2 c) x y)) D hh m' ∧ Fr b 308 m m' := by
  have g := h.c hc
  obtain ⟨q, hq⟩ : ∃ q, q = b + 11 + 57 + 24 * c := ⟨_, rfl⟩
  unfold fX1_addHoliday
  rw [← hq] at g ⊢
  have e1 : upd m (q + 18 + S.2 c 14) (i3 x) (q + 7) = i3 (S.2 c 14) := by rw [upd_n (by omega)]; exact g.f7
  have e2 : upd (upd m (q + 18 + S.2 c 14) (i3 x)) (q + 21 + S.2 c 14) (i3 y) (q + 7) = i3 (S.2 c 14) := by rw [upd_n (by omega)]; exact e1
  rw [g.f7, gLtI, gWrI (by omega) (by omega), e1, gLtI, gWrI (by omega) (by omega), e2, gLtI, n1, i3a, gLtI, upd_s, gLtI]
  have f1 : Fr q 24 m (upd (upd (upd m (q + 18 + S.2 c 14) (i3 x)) (q + 21 + S.2 c 14) (i3 y)) (q + 7) (i3 (S.2 c 14 + 1))) := ((Fr.up (by omega) (by omega)).tr (Fr.up (by omega) (by omega))).tr (Fr.up (by omega) (by omega))
  refine ⟨_, rfl, h.cu hc hn (by rw [← hq]; exact f1) ?_, f1.sub (by omega) (by omega)⟩
  rw [← hq]
  unfold hoR
  refine ⟨?_, fun i hi => by rw [upd_n (by omega), upd_n (by omega), upd_n (by omega)]; exact g.2.1 i hi, ?_, fun k hk => ?_, fun k hk hj => ?_⟩
  · rw [upd_n (by omega), upd_n (by omega), upd_n (by omega), up_n (by omega), up_n (by omega), up_n (by omega)]; exact g.1
  · rw [upd_s, up_s]
  · rw [upd_n (by omega), upd_n (by omega), upd_n (by omega), up_n (by omega), up_n (by omega), up_n (by omega)]; exact g.2.2.2.1 k hk
  · rw [up_s] at hj
    by_cases e : k = S.2 c 14
    · subst e
      refine ⟨?_, ?_⟩
      · rw [upd_n (by omega), upd_n (by omega), upd_s, up_n (by omega), up_n (by omega), up_s]
      · rw [upd_n (by omega), upd_s, up_n (by omega), up_s]
    · refine ⟨?_, ?_⟩
      · rw [upd_n (by omega), upd_n (by omega), upd_n (by omega), up_n (by omega), up_n (by omega), up_n (by omega)]
        exact (g.2.2.2.2 k hk (by omega)).1
      · rw [upd_n (by omega), upd_n (by omega), upd_n (by omega), up_n (by omega), up_n (by omega), up_n (by omega)]
        exact (g.2.2.2.2 k hk (by omega)).2
theorem c_drop {b c k hh : Nat} {S D : gB} {m : gM} (h : Cx b S D hh m) (hc : c < S.1 0) (hn : S.1 0 ≤ 10) (h3 : S.2 c 14 ≤ 3) (hk : k < S.2 c 14) : ∃ m', fX1_dropHoliday (b + 11 + 57 + 24 * c) (i3 k) m = some (m', i3 (S.2 c 14 - 1)) ∧ Cx b (cuS S c (drR (S.2 c) k)) D hh m' ∧ Fr b 308 m m' := by
  have g := h.c hc
  obtain ⟨q, hq⟩ : ∃ q, q = b + 11 + 57 + 24 * c := ⟨_, rfl⟩
  have ev : ∀ j, drR (S.2 c) k j = if j = 14 then S.2 c 14 - 1 else if 15 + 2 * k ≤ j ∧ j < 15 + 2 * (S.2 c 14 - 1) then S.2 c (j + 2) else S.2 c j := fun _ => rfl
  have L : ∀ (f i : Nat) (m1 : gM), k ≤ i → i < S.2 c 14 → S.2 c 14 - i < f → (∀ x, (x < q + 18 ∨ q + 24 ≤ x) → m1 x = m x) → (∀ j, j < S.2 c 14 → m1 (q + 18 + j) = i3 (if k ≤ j ∧ j < i then S.2 c (15 + 2 * (j + 1)) else S.2 c (15 + 2 * j)) ∧ m1 (q + 21 + j) = i3 (if k ≤ j ∧ j < i then S.2 c (15 + 2 * (j + 1) + 1) else S.2 c (15 + 2 * j + 1))) → ∃ m', fX1_dropHoliday_L2 q f (i3 i) m1 = some (m', i3 (S.2 c 14 - 1)) ∧ Cc q (drR (S.2 c) k) (D.2 c) m' ∧ Fr q 24 m m' := by
    intro f
    induction f with
    | zero => intro i m1 h1 h2 h4; omega
    | succ f ih =>
      intro i m1 h1 h2 h4 hf hv
      unfold fX1_dropHoliday_L2
      rw [← hq] at g
      have e7 : m1 (q + 7) = i3 (S.2 c 14) := by rw [hf _ (by omega)]; exact g.f7
      rw [e7, gLtI, n1, i3a, iLe (by omega) (by omega)]
      by_cases r : S.2 c 14 ≤ i + 1
      · rw [if_pos r, gLtI, i3s (by omega), gLtI, upd_s, gLtI]
        refine ⟨_, rfl, ⟨?_, fun j hj => ?_, ?_, fun w hw => ?_, fun j hj hj2 => ?_⟩, ?_⟩
        · rw [upd_n (by omega), hf _ (by omega), ev, if_neg (by omega), if_neg (by omega)]; exact g.1
        · rw [upd_n (by omega), hf _ (by omega)]; exact g.2.1 j hj
        · rw [upd_s, ev, if_pos rfl]
        · rw [upd_n (by omega), hf _ (by omega), ev, if_neg (by omega), if_neg (by omega)]; exact g.2.2.2.1 w hw
        · rw [ev, if_pos rfl] at hj2
          obtain ⟨v1, v2⟩ := hv j (by omega)
          by_cases e : k ≤ j
          · rw [if_pos (by omega)] at v1 v2
            refine ⟨?_, ?_⟩
            · rw [upd_n (by omega), v1, ev, if_neg (by omega), if_pos (by omega)]
              exact congrArg (fun z => i3 (S.2 c z)) (by omega)
            · rw [upd_n (by omega), v2, ev, if_neg (by omega), if_pos (by omega)]
              exact congrArg (fun z => i3 (S.2 c z)) (by omega)
          · rw [if_neg (by omega)] at v1 v2
            refine ⟨?_, ?_⟩
            · rw [upd_n (by omega), v1, ev, if_neg (by omega), if_neg (by omega)]
            · rw [upd_n (by omega), v2, ev, if_neg (by omega), if_neg (by omega)]
        · intro x hx
          rw [upd_n (by omega), hf _ (by omega)]
      · obtain ⟨v1, v2⟩ := hv (i + 1) (by omega)
        rw [if_neg (by omega)] at v1 v2
        have e9 : upd m1 (q + 18 + i) (m1 (q + 18 + (i + 1))) (q + 21 + (i + 1)) = m1 (q + 21 + (i + 1)) := upd_n (by omega)
        rw [if_neg r, gRdI (by omega) (by omega), gWrI (by omega) (by omega), gRdI (by omega) (by omega), gWrI (by omega) (by omega), gLtI, e9, v1, v2]
        refine ih (i + 1) _ (by omega) (by omega) (by omega) (fun x hx => ?_) (fun j hj => ?_)
        · rw [upd_n (by omega), upd_n (by omega), hf x hx]
        · obtain ⟨w1, w2⟩ := hv j hj
          by_cases e : j = i
          · subst e
            refine ⟨?_, ?_⟩
            · rw [upd_n (by omega), upd_s, if_pos (by omega)]
            · rw [upd_s, if_pos (by omega)]
          · refine ⟨?_, ?_⟩
            · rw [upd_n (by omega), upd_n (by omega), w1]
              by_cases e2 : k ≤ j ∧ j < i
              · rw [if_pos e2, if_pos (by omega)]
              · rw [if_neg e2, if_neg (by omega)]
            · rw [upd_n (by omega), upd_n (by omega), w2]
              by_cases e2 : k ≤ j ∧ j < i
              · rw [if_pos e2, if_pos (by omega)]
              · rw [if_neg e2, if_neg (by omega)]
  obtain ⟨m', s1, s2, s3⟩ := L gFU k m (by omega) hk (by show _ < 5000; omega) (fun _ _ => rfl) (fun j hj => by
    rw [if_neg (by omega), if_neg (by omega), hq]
    exact g.2.2.2.2 j (by omega) hj)
  unfold fX1_dropHoliday
  rw [← hq]
  refine ⟨m', s1, h.cu hc hn (by rw [← hq]; exact s3) (by rw [← hq]; exact s2), s3.sub (by omega) (by omega)⟩
theorem c_close {b B st w v hh : Nat} {S D : gB} {m : gM} (h : Cx b S D hh m) (hI : Iv B S D) (hs : st < 4) (hw : w < 7) (hv : v ≤ 1) : ∃ m', fX0_closeStreet b (i3 st) (i3 w) (i3 v) m = some (m', i3 (sm (fun k => (sH S (20 + 7 * st + w) v).1 (20 + 7 * st + k)) 7)) ∧ Cx b (sH S (20 + 7 * st + w) v) D hh m' ∧ Fr b 308 m m' := by
  have L : ∀ (f k : Nat) (S1 : gB) (m : gM), k ≤ 7 → 7 - k < f → Cx b S1 D hh m → Is B S1 → fX0_closeStreet_L18 b (i3 st) f (i3 (sm (fun k => S1.1 (20 + 7 * st + k)) k)) (i3 k) m = some (m, i3 (sm (fun k => S1.1 (20 + 7 * st + k)) 7)) := by
    intro f
    induction f with
    | zero => intro k S1 m h1 h2; omega
    | succ f ih =>
      intro k S1 m h1 h2 h hI
      unfold fX0_closeStreet_L18
      rw [n7, iLe (by omega) (by omega)]
      by_cases q : 7 ≤ k
      · have e : k = 7 := by omega
        subst e
        rw [if_pos q]
      · rw [if_neg q, c_shut h hI hs (by omega), gClI]
        have h5 := hI.2.2.2.2.1 (7 * st + k) (by omega)
        rw [← Nat.add_assoc] at h5
        have K := ih (k + 1) S1 m (by omega) (by omega) h hI
        rw [show sm (fun k => S1.1 (20 + 7 * st + k)) (k + 1) = sm (fun k => S1.1 (20 + 7 * st + k)) k + S1.1 (20 + 7 * st + k) from rfl] at K
        rw [gLtI, n0, iEq (by omega) (by omega)]
        rcases (show S1.1 (20 + 7 * st + k) = 0 ∨ S1.1 (20 + 7 * st + k) = 1 by omega) with r | r
        · rw [r, Nat.add_zero] at K
          rw [if_pos r]
          simp only [gLtI, i3a, n1]
          exact K
        · rw [r] at K
          rw [if_neg (by omega)]
          simp only [gLtI, i3a, n1]
          exact K
  have e0 : vp_nar .boolean (i3 v) = i3 v := by
    rcases (show v = 0 ∨ v = 1 by omega) with r | r <;> subst r <;> rfl
  unfold fX0_closeStreet
  rw [e0, n7, i3m, i3a, gWrI (by omega) (by omega)]
  have g1 := h.SH (i := 20 + 7 * st + w) (v := v) (y := b + 21 + (st * 7 + w)) (by omega)
  exact ⟨_, L gFU 0 _ _ (by omega) (by show 7 - 0 < 5000; omega) g1 (hI.sh hs hw hv).1, g1, Fr.up (by omega) (by omega)⟩
theorem c_place {b B s hh : Nat} {S D : gB} {m : gM} (h : Cx b S D hh m) (hI : Is B S) (hs : s < 4) : fX0_placeOf b (i3 s) m = some (m, i3 (plc S s)) := by
  obtain ⟨p1, p2, p3⟩ := plc_ok hI hs
  have L : ∀ (f k r : Nat), k ≤ 4 → 4 - k < f → (plc S s < k → r = plc S s) → fX0_placeOf_L4 b (i3 s) f (i3 r) (i3 k) m = some (m, i3 (plc S s)) := by
    intro f
    induction f with
    | zero => intro k r h1 h2; omega
    | succ f ih =>
      intro k r h1 h2 h3
      unfold fX0_placeOf_L4
      rw [n4, iLe (by omega) (by omega)]
      by_cases q : 4 ≤ k
      · rw [if_pos q, h3 (by omega)]
      · have ho := hI.ord (p := k) (by omega)
        rw [if_neg q, h.rO (by omega), iEq (by omega) (by omega)]
        simp only [gLtI, n1, i3a]
        by_cases q2 : S.1 (16 + k) = s
        · rw [if_pos q2]
          exact ih (k + 1) k (by omega) (by omega) (fun _ => p3 k (by omega) q2)
        · have e : k ≠ plc S s := fun e => q2 (by rw [e]; exact p2)
          rw [if_neg q2]
          exact ih (k + 1) r (by omega) (by omega) (fun _ => h3 (by omega))
  unfold fX0_placeOf
  exact L gFU 0 0 (by omega) (by show _ < 5000; omega) (fun q => absurd q (by omega))
theorem c_swap {b B s t hh : Nat} {S D : gB} {m : gM} (h : Cx b S D hh m) (hI : Is B S) (hs : s < 4) (ht : t < 4) : ∃ m', fX0_swapStreets b (i3 s) (i3 t) m = some (m', i3 (plc S t)) ∧ Cx b (swS S s t) D hh m' ∧ Fr b 308 m m' := by
  have p1 := (plc_ok hI hs).1
  have q1 := (plc_ok hI ht).1
  unfold fX0_swapStreets
  rw [c_place h hI hs, gClI, c_place h hI ht, gClI, gWrI (by omega) (by omega), gWrI (by omega) (by omega)]
  exact ⟨_, rfl, (h.SH (i := 16 + plc S s) (y := b + 49 + plc S s) (by omega)).SH (by omega), (Fr.up (by omega) (by omega)).tr (Fr.up (by omega) (by omega))⟩
theorem upd_z {m : gM} {x y : Nat} (e : x = y) : upd m y 0 x = i3 0 := by
  rw [e, upd_s]
  exact n0
theorem c_startL {st L q : Nat} {m : gM} (hL : L < 10000000) : ∀ (f t : Nat) (m1 : gM), t ≤ 7 → t < f → Fr q 24 m m1 → m1 (q + 0) = i3 st → (∀ i, i < 6 → m1 (q + (1 + i)) = i3 0) → m1 (q + 7) = i3 0 → (∀ w, t ≤ w → w < 7 → m1 (q + 11 + w) = i3 (L / 10 ^ (6 - w) % 10)) → ∃ m', fX1_start_L46 q f (i3 (L / 10 ^ (7 - t))) (i3 t + (-1)) m1 = some m' ∧ Cc q (nwR st L) (fun _ => 0) m' ∧ Fr q 24 m m':= by
  intro f
  induction f with
  | zero => intro t m1 h1 h2; omega
  | succ f ih =>
    intro t m1 h1 h2 hf k0 k1 k7 kw
    unfold fX1_start_L46
    cases t with
    | zero =>
      rw [if_pos (by decide)]
      refine ⟨m1, rfl, ⟨k0, k1, k7, fun w hw => ?_, fun k hk hj => ?_⟩, hf⟩
      · rw [kw w (by omega) hw]
        unfold nwR
        rw [if_neg (by omega), if_pos (by omega), show 7 - (1 + w) = 6 - w from by omega]
      · have : nwR st L 14 = 0 := by simp [nwR]
        omega
    | succ t =>
      have e5 : i3 (t + 1) + (-1) = i3 t := by rw [m1n, i3an (by omega)]; rfl
      have hb : L / 10 ^ (7 - (t + 1)) < 2147483648 := Nat.lt_of_le_of_lt (Nat.div_le_self _ _) (by omega)
      have e8 : L / 10 ^ (7 - (t + 1)) / 10 = L / 10 ^ (7 - t) := by
        rw [Nat.div_div_eq_div_mul, show 7 - t = 7 - (t + 1) + 1 from by omega, Nat.pow_succ]
      rw [e5, if_neg (i3n (by omega)), n10, i3r hb (by omega), gWrI (by omega) (by omega), i3d hb (by omega), e8]
      simp only [gLtI]
      refine ih t _ (by omega) (by omega) (hf.tr (Fr.up (by omega) (by omega))) (by rw [upd_n (by omega)]; exact k0) (fun i hi => by rw [upd_n (by omega)]; exact k1 i hi) (by rw [upd_n (by omega)]; exact k7) (fun w hw hw2 => ?_)
      by_cases e : w = t
      · subst e
        rw [upd_s, show 7 - (w + 1) = 6 - w from by omega]
      · rw [upd_n (by omega)]
        exact kw w (by omega) hw2
theorem c_cust {b st L hh : Nat} {S D : gB} {m : gM} (h : Cx b S D hh m) (hn : S.1 0 < 10) (hL : L < 10000000) : ∃ m', fX0_addCustomer b (i3 st) (i3 L) m = some (m', i3 (S.1 0)) ∧ Cx b (nwS S st L) (nwD S D) hh m' ∧ Fr b 308 m m' := by
  obtain ⟨q, hq⟩ : ∃ q, q = b + 11 + 57 + 24 * S.1 0 := ⟨_, rfl⟩
  unfold fX0_addCustomer fX1_start
  rw [h.h0, gLtI, gEl10 hn, ← hq, gLtI, gLtI, gLtI, gLtI, gLtI, gLtI, gLtI, gLtI]
  obtain ⟨m1, hm1⟩ : ∃ m1, m1 = upd (upd (upd (upd (upd (upd (upd (upd m (q + 0) (i3 st)) (q + 1) 0) (q + 2) 0) (q + 3) 0) (q + 4) 0) (q + 5) 0) (q + 6) 0) (q + 7) 0 := ⟨_, rfl⟩
  rw [← hm1]
  have hf : Fr q 24 m m1 := fun x hx => by
    rw [hm1]
    rw [upd_n (by omega), upd_n (by omega), upd_n (by omega), upd_n (by omega), upd_n (by omega), upd_n (by omega), upd_n (by omega), upd_n (by omega)]
  have a0 : m1 (q + 0) = i3 st := by
    rw [hm1]
    rw [upd_n (by omega), upd_n (by omega), upd_n (by omega), upd_n (by omega), upd_n (by omega), upd_n (by omega), upd_n (by omega), upd_s]
  have a7 : m1 (q + 7) = i3 0 := by
    rw [hm1]
    exact upd_z rfl
  have a1 : ∀ i, i < 6 → m1 (q + (1 + i)) = i3 0 := by
    intro i hi
    rw [hm1]
    rcases (show i = 0 ∨ i = 1 ∨ i = 2 ∨ i = 3 ∨ i = 4 ∨ i = 5 by omega) with r | r | r | r | r | r
    · rw [upd_n (by omega), upd_n (by omega), upd_n (by omega), upd_n (by omega), upd_n (by omega), upd_n (by omega)]
      exact upd_z (by omega)
    · rw [upd_n (by omega), upd_n (by omega), upd_n (by omega), upd_n (by omega), upd_n (by omega)]
      exact upd_z (by omega)
    · rw [upd_n (by omega), upd_n (by omega), upd_n (by omega), upd_n (by omega)]
      exact upd_z (by omega)
    · rw [upd_n (by omega), upd_n (by omega), upd_n (by omega)]
      exact upd_z (by omega)
    · rw [upd_n (by omega), upd_n (by omega)]
      exact upd_z (by omega)
    · rw [upd_n (by omega)]
      exact upd_z (by omega)
  obtain ⟨m2, s1, s2, s3⟩ := c_startL (q := q) (m := m) (st := st) hL gFU 7 m1 (by omega) (by show 7 < 5000; omega) hf a0 a1 a7 (fun w h1 h2 => absurd h2 (by omega))
  rw [show 7 - 7 = 0 from rfl, Nat.pow_zero, Nat.div_one, show i3 7 + (-1) = 6 from by decide] at s1
  have e0 : m2 (b + 0) = i3 (S.1 0) := by rw [s3 _ (by omega)]; exact h.h0
  rw [s1, gCvI, e0, gLtI, n1, i3a, gLtI, upd_s, gLtI, i3s (by omega), Nat.add_sub_cancel]
  rw [hq] at s2 s3
  exact ⟨_, rfl, h.nw hn s3 s2, (s3.sub (by omega) (by omega)).tr (Fr.up (by omega) (by omega))⟩
