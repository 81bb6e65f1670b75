/-! the text: signs, forms, the program's check -/
def sg (n : Nat) (f : Nat → Nat) (p : Nat) : Nat := if p < n then f p else 0
def Tc (n : Nat) (f : Nat → Nat) (m : gM) : Prop := m (6 + 1) = i3 n ∧ n ≤ 120 ∧ ∀ i, i < n → m (8 + i) = i3 (f i) ∧ f i < 256
def Tm (n : Nat) (f : Nat → Nat) (m : gM) : Prop := m (5693 + 2) = i3 n ∧ n ≤ 120 ∧ ∀ i, i < n → m (5704 + i) = i3 (f i) ∧ f i < 256
theorem Tc.sl {n : Nat} {f : Nat → Nat} {m : gM} (h : Tc n f m) (p : Nat) : sg n f p < 256 := by
  unfold sg
  split
  · exact (h.2.2 p (by assumption)).2
  · omega
theorem c_sign {n p : Nat} {f : Nat → Nat} {m : gM} (h : Tc n f m) (hp : p < 1000000) : fX4_signAt (i3 p) m = some (m, i3 (sg n f p)) := by
  have hn := h.2.1
  unfold fX4_signAt sg
  rw [if_neg (i3n (by omega)), h.1, gLtI, iLe (by omega) (by omega)]
  by_cases q : n ≤ p
  · rw [if_pos q, if_neg (by omega)]
    exact gRzI rfl
  · obtain ⟨h1, h2⟩ := h.2.2 p (by omega)
    rw [if_neg q, if_pos (by omega), gRdI (by omega) (by omega), h1, gRzI (chr _ h2).2]
def al (n : Nat) (f : Nat → Nat) (k p : Nat) : Bool := if k = 43 then decide (sg n f p = 43 ∨ sg n f p = 45) else if k = 100 then decide ((if sg n f (p - 1) = 48 then 49 else 48) ≤ sg n f p ∧ sg n f p ≤ (if sg n f (p - 1) = 54 then 48 else 57)) else decide (48 ≤ sg n f p ∧ sg n f p ≤ k)
theorem c_al {n k p : Nat} {f : Nat → Nat} {m : gM} (h : Tc n f m) (hk : k < 1000) (h1 : 1 ≤ p) (hp : p < 1000000) : fX4_isAllowed (i3 k) (i3 p) m = some (m, bI (al n f k p)) := by
  have hs := h.sl p
  have hs2 := h.sl (p - 1)
  have e1 : i3 p - 1 = i3 (p - 1) := i3s h1
  unfold fX4_isAllowed al
  rw [c_sign h hp, gClI, e1, c_sign h (by omega), gClI]
  generalize sg n f p = s at hs ⊢
  generalize sg n f (p - 1) = t at hs2 ⊢
  by_cases q : k = 43
  · subst q
    rw [if_pos (by decide), if_pos rfl, show (43 : Int32) = i3 43 from rfl, show (45 : Int32) = i3 45 from rfl, iEq (by omega) (by omega), iEq (by omega) (by omega)]
    by_cases c : s = 43
    · rw [if_pos c, decide_eq_true (Or.inl c)]
      rfl
    · rw [if_neg c]
      by_cases d : s = 45
      · rw [if_pos d, decide_eq_true (Or.inr d)]
        rfl
      · rw [if_neg d, decide_eq_false (fun e => e.elim c d)]
        rfl
  · have q1 : ¬ i3 k = 43 := by
      rw [show (43 : Int32) = i3 43 from rfl, i3e (by omega) (by omega)]
      exact q
    rw [if_neg q1, if_neg q]
    by_cases r : k = 100
    · subst r
      have a1 : ((if i3 t = 48 then 49 else 48) : Int32) = i3 (if t = 48 then 49 else 48) := by
        rw [show (48 : Int32) = i3 48 from rfl, iEq (by omega) (by omega)]
        split <;> rfl
      have a2 : ((if i3 t = 54 then 48 else 57) : Int32) = i3 (if t = 54 then 48 else 57) := by
        rw [show (54 : Int32) = i3 54 from rfl, iEq (by omega) (by omega)]
        split <;> rfl
      have b1 : (if t = 48 then 49 else 48) < 1000 := by split <;> omega
      have b2 : (if t = 54 then 48 else 57) < 1000 := by split <;> omega
      rw [if_pos (by decide), if_pos rfl, a1, a2]
      generalize (if t = 48 then 49 else 48) = x at b1 ⊢
      generalize (if t = 54 then 48 else 57) = y at b2 ⊢
      rw [gLtI, gLtI, iLt (by omega) (by omega), iLt (by omega) (by omega)]
      by_cases c : s < x
      · rw [if_pos c, decide_eq_false (by omega)]
        rfl
      · rw [if_neg c]
        by_cases d : y < s
        · rw [if_pos d, decide_eq_false (by omega)]
          rfl
        · rw [if_neg d, decide_eq_true (by omega)]
          rfl
    · have r1 : ¬ i3 k = 100 := by
        rw [n100, i3e (by omega) (by omega)]
        exact r
      rw [if_neg r1, if_neg r, show (48 : Int32) = i3 48 from rfl, iLt (by omega) (by omega), iLt (by omega) (by omega)]
      by_cases c : s < 48
      · rw [if_pos c, decide_eq_false (by omega)]
        rfl
      · rw [if_neg c]
        by_cases d : k < s
        · rw [if_pos d, decide_eq_false (by omega)]
          rfl
        · rw [if_neg d, decide_eq_true (by omega)]
          rfl
def fe (n : Nat) (f : Nat → Nat) : List Nat → Nat → Option Nat
  | [], _ => none
  | k :: ks, p => if al n f k p = true then fe n f ks (p + 1) else some p
def fm (j : Nat) : List Nat := if j = 0 then [51, 57, 57, 57, 57, 57, 57, 57] else if j = 1 then [57, 54, 57] else if j = 2 then [57, 57, 57, 57, 57] else if j = 3 then [51, 54, 43] else if j = 4 then [51, 51] else if j = 5 then [52, 57, 57] else if j = 6 then [54, 100] else []
def lj (s : Nat) : Nat := if s = 99 then 0 else if s = 110 then 1 else if s = 104 then 2 else if s = 120 then 3 else if s = 118 then 4 else if s = 115 then 5 else if s = 100 then 6 else 7
theorem lj8 (s : Nat) : lj s < 8 := by
  unfold lj
  repeat' split
  all_goals omega
theorem c_len {j : Nat} (hj : j < 8) (m : gM) : fJ0_length_8abf5 j m = some (m, i3 (fm j).length) := by
  have e : fJ0_length_8abf5 j m = some (m, (Int32.ofNat (gTlen.getD j 0)) >>> ((0 : Int32) &&& 31)) := rfl
  have e2 : (Int32.ofNat (gTlen.getD j 0)) >>> ((0 : Int32) &&& 31) = i3 (fm j).length := by
    rcases (show j = 0 ∨ j = 1 ∨ j = 2 ∨ j = 3 ∨ j = 4 ∨ j = 5 ∨ j = 6 ∨ j = 7 by omega) with q | q | q | q | q | q | q | q <;> subst q <;> decide +kernel
  rw [e, e2]
theorem c_emp {j : Nat} (hj : j < 8) (m : gM) : fJ0_isEmpty_aae02 j m = some (m, bI (decide (j = 7))) := by
  rcases (show j = 0 ∨ j = 1 ∨ j = 2 ∨ j = 3 ∨ j = 4 ∨ j = 5 ∨ j = 6 ∨ j = 7 by omega) with q | q | q | q | q | q | q | q <;> subst q <;> rfl
theorem c_chr {j : Nat} (hj : j < 8) {i : Nat} (hi : i < (fm j).length) (m : gM) : fJ0_charAt_5068e j (i3 i) m = some (m, i3 ((fm j)[i])) := by
  rcases (show j = 0 ∨ j = 1 ∨ j = 2 ∨ j = 3 ∨ j = 4 ∨ j = 5 ∨ j = 6 ∨ j = 7 by omega) with q | q | q | q | q | q | q | q <;> subst q
  · have h : i < 8 := hi
    rcases (show i = 0 ∨ i = 1 ∨ i = 2 ∨ i = 3 ∨ i = 4 ∨ i = 5 ∨ i = 6 ∨ i = 7 by omega) with r | r | r | r | r | r | r | r <;> subst r <;> rfl
  · have h : i < 3 := hi
    rcases (show i = 0 ∨ i = 1 ∨ i = 2 by omega) with r | r | r <;> subst r <;> rfl
  · have h : i < 5 := hi
    rcases (show i = 0 ∨ i = 1 ∨ i = 2 ∨ i = 3 ∨ i = 4 by omega) with r | r | r | r | r <;> subst r <;> rfl
  · have h : i < 3 := hi
    rcases (show i = 0 ∨ i = 1 ∨ i = 2 by omega) with r | r | r <;> subst r <;> rfl
  · have h : i < 2 := hi
    rcases (show i = 0 ∨ i = 1 by omega) with r | r <;> subst r <;> rfl
  · have h : i < 3 := hi
    rcases (show i = 0 ∨ i = 1 ∨ i = 2 by omega) with r | r | r <;> subst r <;> rfl
  · have h : i < 2 := hi
    rcases (show i = 0 ∨ i = 1 by omega) with r | r <;> subst r <;> rfl
  · have h : i < 0 := hi
    omega
theorem fm_b {j : Nat} {k : Nat} (h : k ∈ fm j) : k < 1000 ∧ 43 ≤ k := by
  unfold fm at h
  repeat' split at h
  all_goals simp at h
  all_goals omega
theorem c_fo {s : Nat} (hs : s < 256) (m : gM) : fX4_formOf (i3 s) m = some (m, 20030 + lj s) := by
  by_cases q0 : s = 99
  · subst q0; rfl
  by_cases q1 : s = 110
  · subst q1; rfl
  by_cases q2 : s = 104
  · subst q2; rfl
  by_cases q3 : s = 120
  · subst q3; rfl
  by_cases q4 : s = 118
  · subst q4; rfl
  by_cases q5 : s = 115
  · subst q5; rfl
  by_cases q6 : s = 100
  · subst q6; rfl
  have e : ∀ k, k < 256 → ¬ s = k → ¬ i3 s = i3 k := fun k hk h => by
    rw [i3e (by omega) (by omega)]
    exact h
  have r0 : ¬ i3 s = 99 := e 99 (by omega) q0
  have r1 : ¬ i3 s = 110 := e 110 (by omega) q1
  have r2 : ¬ i3 s = 104 := e 104 (by omega) q2
  have r3 : ¬ i3 s = 120 := e 120 (by omega) q3
  have r4 : ¬ i3 s = 118 := e 118 (by omega) q4
  have r5 : ¬ i3 s = 115 := e 115 (by omega) q5
  have r6 : ¬ i3 s = 100 := e 100 (by omega) q6
  unfold fX4_formOf lj
  simp only [r0, r1, r2, r3, r4, r5, r6, q0, q1, q2, q3, q4, q5, q6, if_false, ite_self]
theorem gOkSI {β : Type} {j : Nat} (hj : j < 8) {k : Nat → Option β} : gOkS (20030 + j) k = k j := by
  unfold gOkS
  rw [if_pos (by omega), show 20030 + j - 20030 = j from by omega]
theorem c_fl {n a : Nat} {f : Nat → Nat} {m : gM} (h : Tc n f m) (ha : a < 1000000) : fX4_formLength (i3 a) m = some (m, i3 (fm (lj (sg n f a))).length) := by
  unfold fX4_formLength
  rw [c_sign h ha, gClI, c_fo (h.sl a), gClI, gOkSI (lj8 _), c_len (lj8 _), gClI]
theorem c_frm {n a j : Nat} {f : Nat → Nat} {m : gM} {r : Int32 → gM → Option (gM × Int32)} (h : Tc n f m) (hj : j < 8) (ha : a < 1000) : ∀ (g k i : Nat), i + k = (fm j).length → k < g → i < 1000 → fX4_firstError_L42 (i3 a) (20030 + j) j r g (i3 i) m = (fe n f ((fm j).drop i) (a + 1 + i)).elim (gCl (fX4_formLength (i3 a) m) fun m19 x20 => r (i3 a + (1 + x20)) m19) (fun e => some (m, i3 e)) := by
  have hl : (fm j).length < 1000 := by
    rcases (show j = 0 ∨ j = 1 ∨ j = 2 ∨ j = 3 ∨ j = 4 ∨ j = 5 ∨ j = 6 ∨ j = 7 by omega) with q | q | q | q | q | q | q | q <;> subst q <;> decide
  intro g
  induction g with
  | zero => intro k i h1 h2; omega
  | succ g ih =>
    intro k i h1 h2 h3
    unfold fX4_firstError_L42
    rw [c_len hj, gClI, iLe (by omega) (by omega)]
    cases k with
    | zero =>
      rw [if_pos (by omega), List.drop_eq_nil_of_le (by omega)]
      rfl
    | succ k =>
      have hi : i < (fm j).length := by omega
      rw [if_neg (by omega), c_chr hj hi, gClI, n1, i3a, i3a, c_al h (fm_b (List.getElem_mem hi)).1 (by omega) (by omega), gClI, iB0, List.drop_eq_getElem_cons hi]
      unfold fe
      cases al n f ((fm j)[i]) (a + 1 + i) with
      | false => rfl
      | true =>
        rw [if_pos rfl, if_pos rfl, gLtI, i3a]
        exact ih k (i + 1) (by omega) (by omega) (by omega)
/-- where a command is wrong, none -/
def ck (n : Nat) (f : Nat → Nat) (a : Nat) : Option Nat := if lj (sg n f a) = 7 then some a else fe n f (fm (lj (sg n f a))) (a + 1)
theorem c_l14 {n a g : Nat} {f : Nat → Nat} {m : gM} (h : Tc n f m) (ha : a < n) : fX4_firstError_L14 (g + 1) (i3 a) m = (ck n f a).elim (fX4_firstError_L14 g (i3 (a + (1 + (fm (lj (sg n f a))).length))) m) (fun e => some (m, i3 e)) := by
  have hn := h.2.1
  have hj := lj8 (sg n f a)
  have hl : (fm (lj (sg n f a))).length < 100 := by
    generalize lj (sg n f a) = j at hj ⊢
    rcases (show j = 0 ∨ j = 1 ∨ j = 2 ∨ j = 3 ∨ j = 4 ∨ j = 5 ∨ j = 6 ∨ j = 7 by omega) with q | q | q | q | q | q | q | q <;> subst q <;> decide
  have e := c_frm (r := fX4_firstError_L14 g) h hj (show a < 1000 by omega) gFU (fm (lj (sg n f a))).length 0 (by omega) (by show _ < 5000; omega) (by omega)
  rw [c_fl h (by omega), gClI, n1, i3a, i3a] at e
  unfold ck
  conv => lhs; unfold fX4_firstError_L14
  rw [h.1, gLtI, iLe (by omega) (by omega), if_neg (by omega), c_sign h (by omega), gClI, c_fo (h.sl a), gClI, gOkSI hj, c_emp hj, gClI, iB0]
  by_cases q : lj (sg n f a) = 7
  · rw [decide_eq_true q, if_pos rfl, if_pos q]
    rfl
  · rw [decide_eq_false q, if_neg (by decide), if_neg q]
    exact e
