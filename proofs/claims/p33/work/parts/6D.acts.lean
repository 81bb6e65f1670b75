/-! acts on a book: what they make of it -/
def nwR (st L : Nat) : Nat → Nat := fun j => if j = 0 then st else if j < 8 then L / 10 ^ (7 - j) % 10 else 0
def nwS (S : gB) (st L : Nat) : gB := (up S.1 0 (S.1 0 + 1), up S.2 (S.1 0) (nwR st L))
def nwD (S D : gB) : gB := (D.1, up D.2 (S.1 0) (fun _ => 0))
def hoR (s : Nat → Nat) (x y : Nat) : Nat → Nat := up (up (up s (15 + 2 * s 14) x) (15 + 2 * s 14 + 1) y) 14 (s 14 + 1)
def cuS (S : gB) (c : Nat) (s' : Nat → Nat) : gB := (S.1, up S.2 c s')
def drR (s : Nat → Nat) (k : Nat) : Nat → Nat := fun j => if j = 14 then s 14 - 1 else if 15 + 2 * k ≤ j ∧ j < 15 + 2 * (s 14 - 1) then s (j + 2) else s j
theorem m1n : (-1 : Int32) = -(i3 1) := by decide
theorem Is.cu {B : Nat} {S : gB} (h : Is B S) {c : Nat} {s' : Nat → Nat} (hs : Cs s') : Is B (cuS S c s') := by
  obtain ⟨h0, h1, h2, h3, h4, h5⟩ := h
  refine ⟨h0, h1, h2, h3, h4, fun c' hc' => ?_⟩
  show Cs (up S.2 c s' c')
  by_cases e : c' = c
  · subst e
    rw [up_s]
    exact hs
  · rw [up_n e]
    exact h5 c' hc'
theorem Iv.cu {B : Nat} {S D : gB} (h : Iv B S D) {c : Nat} {s' : Nat → Nat} (hs : Cs s') : Iv B (cuS S c s') D := ⟨h.1.cu hs, h.2⟩
theorem nwR_s (st L : Nat) (hs : st < 4) : Cs (nwR st L) := by
  refine ⟨hs, fun w hw => ?_, ?_, fun k _ hk => ?_⟩
  · unfold nwR
    rw [if_neg (by omega), if_pos (by omega)]
    have := Nat.mod_lt (L / 10 ^ (7 - (1 + w))) (y := 10) (by omega)
    omega
  · show nwR st L 14 ≤ 3
    simp [nwR]
  · have e : nwR st L 14 = 0 := by simp [nwR]
    omega
theorem Iv.nw {B : Nat} {S D : gB} (h : Iv B S D) {st L : Nat} (hn : S.1 0 < 10) (hs : st < 4) : Iv B (nwS S st L) (nwD S D) := by
  obtain ⟨⟨h0, h1, h2, h3, h4, h5⟩, c1, c2⟩ := h
  have e0 : (nwS S st L).1 0 = S.1 0 + 1 := rfl
  refine ⟨⟨by rw [e0]; omega, h1, h2, h3, fun i hi => by show up S.1 0 (S.1 0 + 1) (20 + i) ≤ 1; rw [up_n (by omega)]; exact h4 i hi, fun c hc => ?_⟩, fun c hc => ?_, ?_⟩
  · show Cs (up S.2 (S.1 0) (nwR st L) c)
    by_cases e : c = S.1 0
    · subst e
      rw [up_s]
      exact nwR_s st L hs
    · rw [up_n e]
      exact h5 c (by omega)
  · show up D.2 (S.1 0) (fun _ => 0) c 8 ≤ 30
    by_cases e : c = S.1 0
    · subst e
      rw [up_s]
      omega
    · rw [up_n e]
      exact c1 c (by omega)
  · rw [e0]
    have e : ∀ j, sm (fun c => (nwD S D).2 c j) (S.1 0 + 1) = sm (fun c => D.2 c j) (S.1 0) := by
      intro j
      show sm _ (S.1 0) + up D.2 (S.1 0) (fun _ => 0) (S.1 0) j = _
      rw [up_s, Nat.add_zero]
      refine sm_congr (fun i hi => ?_)
      show up D.2 (S.1 0) (fun _ => 0) i j = _
      rw [up_n (by omega)]
    rw [e, e, e, e, e]
    exact c2
theorem Iv.wk {B : Nat} {S D : gB} (h : Iv B S D) {c w x : Nat} (hc : c < S.1 0) (hx : x ≤ 9) (hw : w < 7) : Iv B (cuS S c (up (S.2 c) (1 + w) x)) D := by
  obtain ⟨h0, h1, h2, h3⟩ := h.1.cust hc
  refine h.cu ⟨?_, fun k hk => ?_, ?_, fun k hk hj => ?_⟩
  · rw [up_n (by omega)]
    exact h0
  · by_cases e : k = w
    · subst e
      rw [up_s]
      exact hx
    · rw [up_n (by omega)]
      exact h1 k hk
  · rw [up_n (by omega)]
    exact h2
  · rw [up_n (by omega)] at hj
    rw [up_n (by omega), up_n (by omega)]
    exact h3 k hk hj
theorem hoR_s {s : Nat → Nat} {x y : Nat} (h : Cs s) (h3 : s 14 < 3) (hx : x ≤ 999) (hy : y ≤ 999) : Cs (hoR s x y) := by
  obtain ⟨h0, h1, h2, h4⟩ := h
  unfold hoR
  refine ⟨?_, fun k hk => ?_, ?_, fun k hk hj => ?_⟩
  · rw [up_n (by omega), up_n (by omega), up_n (by omega)]
    exact h0
  · rw [up_n (by omega), up_n (by omega), up_n (by omega)]
    exact h1 k hk
  · rw [up_s]
    omega
  · rw [up_s] at hj
    by_cases e : k = s 14
    · subst e
      refine ⟨?_, ?_⟩
      · rw [up_n (by omega), up_n (by omega), up_s]
        exact hx
      · rw [up_n (by omega), up_s]
        exact hy
    · refine ⟨?_, ?_⟩
      · rw [up_n (by omega), up_n (by omega), up_n (by omega)]
        exact (h4 k hk (by omega)).1
      · rw [up_n (by omega), up_n (by omega), up_n (by omega)]
        exact (h4 k hk (by omega)).2
theorem drR_s {s : Nat → Nat} {k : Nat} (h : Cs s) (hk : k < s 14) : Cs (drR s k) := by
  obtain ⟨h0, h1, h2, h4⟩ := h
  have ev : ∀ j, drR s k j = if j = 14 then s 14 - 1 else if 15 + 2 * k ≤ j ∧ j < 15 + 2 * (s 14 - 1) then s (j + 2) else s j := fun _ => rfl
  refine ⟨?_, fun w hw => ?_, ?_, fun i hi hj => ?_⟩
  · rw [ev, if_neg (by omega), if_neg (by omega)]
    exact h0
  · rw [ev, if_neg (by omega), if_neg (by omega)]
    exact h1 w hw
  · rw [ev, if_pos rfl]
    omega
  · rw [ev, if_pos rfl] at hj
    by_cases e : k ≤ i
    · have := h4 (i + 1) (by omega) (by omega)
      rw [show 15 + 2 * (i + 1) = 15 + 2 * i + 2 from by omega] at this
      refine ⟨?_, ?_⟩
      · rw [ev, if_neg (by omega), if_pos (by omega)]
        exact this.1
      · rw [ev, if_neg (by omega), if_pos (by omega)]
        exact this.2
    · refine ⟨?_, ?_⟩
      · rw [ev, if_neg (by omega), if_neg (by omega)]
        exact (h4 i hi (by omega)).1
      · rw [ev, if_neg (by omega), if_neg (by omega)]
        exact (h4 i hi (by omega)).2
theorem Iv.sh {B : Nat} {S D : gB} (h : Iv B S D) {st w v : Nat} (hs : st < 4) (hw : w < 7) (hv : v ≤ 1) : Iv B (sH S (20 + 7 * st + w) v) D := by
  obtain ⟨⟨h0, h1, h2, h3, h4, h5⟩, h6⟩ := h
  have e : ∀ i, i < 20 → (sH S (20 + 7 * st + w) v).1 i = S.1 i := fun i hi => up_n (by omega)
  refine ⟨⟨?_, ?_, ?_, ?_, fun i hi => ?_, fun c hc => ?_⟩, ?_⟩
  · rw [e 0 (by omega)]; exact h0
  · rw [e 1 (by omega)]; exact h1
  · rw [e 11 (by omega), e 12 (by omega), e 13 (by omega), e 14 (by omega), e 15 (by omega)]; exact h2
  · rw [e 16 (by omega), e 17 (by omega), e 18 (by omega), e 19 (by omega)]; exact h3
  · show up S.1 (20 + 7 * st + w) v (20 + i) ≤ 1
    by_cases q : 20 + i = 20 + 7 * st + w
    · rw [q, up_s]; exact hv
    · rw [up_n q]; exact h4 i hi
  · rw [e 0 (by omega)] at hc
    exact h5 c hc
  · rw [e 0 (by omega)]
    exact h6
def stOk (i x : Nat) : Prop := (i = 0 ∧ x ≤ 99) ∨ (i = 1 ∧ x ≤ 9) ∨ (i = 2 ∧ x ≤ 9) ∨ (i = 3 ∧ x ≤ 30) ∨ (i = 4 ∧ 1 ≤ x ∧ x ≤ 20)
theorem Iv.st {B : Nat} {S D : gB} (h : Iv B S D) {i x : Nat} (hx : stOk i x) : Iv B (sH S (11 + i) x) D := by
  obtain ⟨⟨h0, h1, h2, h3, h4, h5⟩, h6⟩ := h
  have e : ∀ k, k ≠ 11 + i → (sH S (11 + i) x).1 k = S.1 k := fun k hk => up_n hk
  have e2 : (sH S (11 + i) x).1 (11 + i) = x := up_s
  have hi : i < 5 := by unfold stOk at hx; omega
  refine ⟨⟨?_, ?_, ?_, ?_, fun k hk => ?_, fun c hc => ?_⟩, ?_⟩
  · rw [e 0 (by omega)]; exact h0
  · rw [e 1 (by omega)]; exact h1
  · rcases hx with ⟨q, r⟩ | ⟨q, r⟩ | ⟨q, r⟩ | ⟨q, r⟩ | ⟨q, r⟩ <;> subst q
    · rw [e 12 (by omega), e 13 (by omega), e 14 (by omega), e 15 (by omega), e2]
      exact ⟨r, h2.2⟩
    · rw [e 11 (by omega), e 13 (by omega), e 14 (by omega), e 15 (by omega), e2]
      exact ⟨h2.1, r, h2.2.2⟩
    · rw [e 11 (by omega), e 12 (by omega), e 14 (by omega), e 15 (by omega), e2]
      exact ⟨h2.1, h2.2.1, r, h2.2.2.2⟩
    · rw [e 11 (by omega), e 12 (by omega), e 13 (by omega), e 15 (by omega), e2]
      exact ⟨h2.1, h2.2.1, h2.2.2.1, r, h2.2.2.2.2⟩
    · rw [e 11 (by omega), e 12 (by omega), e 13 (by omega), e 14 (by omega), e2]
      exact ⟨h2.1, h2.2.1, h2.2.2.1, h2.2.2.2.1, r⟩
  · rw [e 16 (by omega), e 17 (by omega), e 18 (by omega), e 19 (by omega)]; exact h3
  · rw [e _ (by omega)]; exact h4 k hk
  · rw [e 0 (by omega)] at hc
    exact h5 c hc
  · rw [e 0 (by omega)]
    exact h6
/-- the order's place of a street -/
def plc (S : gB) (s : Nat) : Nat := if S.1 16 = s then 0 else if S.1 17 = s then 1 else if S.1 18 = s then 2 else 3
theorem plc_ok {B : Nat} {S : gB} (h : Is B S) {s : Nat} (hs : s < 4) : plc S s < 4 ∧ S.1 (16 + plc S s) = s ∧ ∀ i, i < 4 → S.1 (16 + i) = s → i = plc S s := by
  have ho := h.2.2.2.1
  unfold plc
  by_cases c0 : S.1 16 = s
  · rw [if_pos c0]
    refine ⟨by omega, c0, fun i hi q => ?_⟩
    rcases (show i = 0 ∨ i = 1 ∨ i = 2 ∨ i = 3 by omega) with r | r | r | r <;> subst r <;> simp at q <;> omega
  · rw [if_neg c0]
    by_cases c1 : S.1 17 = s
    · rw [if_pos c1]
      refine ⟨by omega, c1, fun i hi q => ?_⟩
      rcases (show i = 0 ∨ i = 1 ∨ i = 2 ∨ i = 3 by omega) with r | r | r | r <;> subst r <;> simp at q <;> omega
    · rw [if_neg c1]
      by_cases c2 : S.1 18 = s
      · rw [if_pos c2]
        refine ⟨by omega, c2, fun i hi q => ?_⟩
        rcases (show i = 0 ∨ i = 1 ∨ i = 2 ∨ i = 3 by omega) with r | r | r | r <;> subst r <;> simp at q <;> omega
      · rw [if_neg c2]
        refine ⟨by omega, by show S.1 19 = s; omega, fun i hi q => ?_⟩
        rcases (show i = 0 ∨ i = 1 ∨ i = 2 ∨ i = 3 by omega) with r | r | r | r <;> subst r <;> simp at q <;> omega
def swS (S : gB) (s t : Nat) : gB := sH (sH S (16 + plc S s) t) (16 + plc S t) s
theorem Iv.sw {B : Nat} {S D : gB} (h : Iv B S D) {s t : Nat} (hs : s < 4) (ht : t < 4) : Iv B (swS S s t) D := by
  obtain ⟨p1, p2, -⟩ := plc_ok h.1 hs
  obtain ⟨q1, q2, -⟩ := plc_ok h.1 ht
  have e : ∀ k, (k < 16 ∨ 20 ≤ k) → (swS S s t).1 k = S.1 k := fun k hk => (up_n (by omega)).trans (up_n (by omega))
  have ev : ∀ k, (swS S s t).1 k = if k = 16 + plc S t then s else if k = 16 + plc S s then t else S.1 k := fun k => rfl
  obtain ⟨⟨h0, h1, h2, h3, h4, h5⟩, h6⟩ := h
  refine ⟨⟨?_, ?_, ?_, ?_, fun k hk => ?_, fun c hc => ?_⟩, ?_⟩
  · rw [e 0 (by omega)]; exact h0
  · rw [e 1 (by omega)]; exact h1
  · rw [e 11 (by omega), e 12 (by omega), e 13 (by omega), e 14 (by omega), e 15 (by omega)]; exact h2
  · rw [ev 16, ev 17, ev 18, ev 19]
    generalize plc S s = p at p1 p2 ⊢
    generalize plc S t = q at q1 q2 ⊢
    rcases (show p = 0 ∨ p = 1 ∨ p = 2 ∨ p = 3 by omega) with r | r | r | r <;> subst r <;> rcases (show q = 0 ∨ q = 1 ∨ q = 2 ∨ q = 3 by omega) with r | r | r | r <;> subst r <;> simp at p2 q2 ⊢ <;> omega
  · rw [e _ (by omega)]; exact h4 k hk
  · rw [e 0 (by omega)] at hc
    exact h5 c hc
  · rw [e 0 (by omega)]
    exact h6
