/-! a day of the spec -/
theorem lst_snoc (S : gB) (p : Nat) : ∀ (j c : Nat), lst S p c (j + 1) = lst S p c j ++ (if S.2 (c + j) 0 = S.1 (16 + p) then [c + j] else [])
  | 0, c => by
    by_cases q : S.2 c 0 = S.1 (16 + p) <;> simp [lst, q]
  | j + 1, c => by
    have ih := lst_snoc S p j (c + 1)
    have e : c + 1 + j = c + (j + 1) := by omega
    rw [e] at ih
    show (if S.2 c 0 = S.1 (16 + p) then c :: lst S p (c + 1) (j + 1) else lst S p (c + 1) (j + 1)) = _
    rw [ih]
    by_cases q : S.2 c 0 = S.1 (16 + p) <;> simp [lst, q]
theorem lst_mem (S : gB) (p : Nat) : ∀ (j c x : Nat), x ∈ lst S p c j ↔ (c ≤ x ∧ x < c + j ∧ S.2 x 0 = S.1 (16 + p))
  | 0, c, x => by
    simp only [lst, List.not_mem_nil, false_iff]
    omega
  | j + 1, c, x => by
    have ih := lst_mem S p j (c + 1) x
    simp only [lst]
    split
    · rename_i h
      rw [List.mem_cons, ih]
      constructor
      · rintro (q | q)
        · subst q
          exact ⟨by omega, by omega, h⟩
        · exact ⟨by omega, by omega, q.2.2⟩
      · intro q
        by_cases e : x = c
        · exact Or.inl e
        · exact Or.inr ⟨by omega, by omega, q.2.2⟩
    · rename_i h
      rw [ih]
      constructor
      · intro q
        exact ⟨by omega, by omega, q.2.2⟩
      · intro q
        by_cases e : x = c
        · subst e
          exact absurd q.2.2 h
        · exact ⟨by omega, by omega, q.2.2⟩
theorem rnd_eq (S : gB) : rnd S = lst S 0 0 (S.1 0) ++ (lst S 1 0 (S.1 0) ++ (lst S 2 0 (S.1 0) ++ (lst S 3 0 (S.1 0) ++ []))) := rfl
theorem perm4 {a b c d x : Nat} (h : a < 4 ∧ b < 4 ∧ c < 4 ∧ d < 4 ∧ a ≠ b ∧ a ≠ c ∧ a ≠ d ∧ b ≠ c ∧ b ≠ d ∧ c ≠ d) (hx : x < 4) : (x = a ∧ x ≠ b ∧ x ≠ c ∧ x ≠ d) ∨ (x ≠ a ∧ x = b ∧ x ≠ c ∧ x ≠ d) ∨ (x ≠ a ∧ x ≠ b ∧ x = c ∧ x ≠ d) ∨ (x ≠ a ∧ x ≠ b ∧ x ≠ c ∧ x = d) := by omega
theorem rnd_len {B : Nat} {S : gB} (h : Is B S) : (rnd S).length = S.1 0 := by
  have L : ∀ k, k ≤ S.1 0 → (lst S 0 0 k).length + (lst S 1 0 k).length + (lst S 2 0 k).length + (lst S 3 0 k).length = k := by
    intro k
    induction k with
    | zero => intro _; rfl
    | succ k ih =>
      intro hk
      have i1 := ih (by omega)
      have hs := (h.cust (c := k) (by omega)).1
      simp only [lst_snoc, List.length_append, Nat.zero_add]
      rcases perm4 h.2.2.2.1 hs with q | q | q | q
      · rw [if_pos q.1, if_neg q.2.1, if_neg q.2.2.1, if_neg q.2.2.2]
        simp only [List.length_cons, List.length_nil]
        omega
      · rw [if_neg q.1, if_pos q.2.1, if_neg q.2.2.1, if_neg q.2.2.2]
        simp only [List.length_cons, List.length_nil]
        omega
      · rw [if_neg q.1, if_neg q.2.1, if_pos q.2.2.1, if_neg q.2.2.2]
        simp only [List.length_cons, List.length_nil]
        omega
      · rw [if_neg q.1, if_neg q.2.1, if_neg q.2.2.1, if_pos q.2.2.2]
        simp only [List.length_cons, List.length_nil]
        omega
  have h1 := L (S.1 0) (Nat.le_refl _)
  rw [rnd_eq]
  simp only [List.length_append, List.length_nil]
  omega
theorem rnd_mem {B : Nat} {S : gB} (h : Is B S) (c : Nat) : c ∈ rnd S ↔ c < S.1 0 := by
  rw [rnd_eq]
  simp only [List.mem_append, lst_mem, List.not_mem_nil, or_false]
  constructor
  · rintro (q | q | q | q) <;> omega
  · intro q
    have hs := (h.cust q).1
    rcases perm4 h.2.2.2.1 hs with r | r | r | r
    · exact Or.inl ⟨Nat.zero_le _, by omega, r.1⟩
    · exact Or.inr (Or.inl ⟨Nat.zero_le _, by omega, r.2.1⟩)
    · exact Or.inr (Or.inr (Or.inl ⟨Nat.zero_le _, by omega, r.2.2.1⟩))
    · exact Or.inr (Or.inr (Or.inr ⟨Nat.zero_le _, by omega, r.2.2.2⟩))
/-- the sums of the other side -/
def Sms (n : Nat) (D : gB) : Prop := D.1 3 = sm (fun c => D.2 c 9) n ∧ D.1 4 = sm (fun c => D.2 c 10) n ∧ D.1 6 = sm (fun c => D.2 c 11) n ∧ D.1 9 = sm (fun c => D.2 c 12) n ∧ D.1 10 = sm (fun c => D.2 c 13) n
theorem sm_up {f : Nat → Nat → Nat} {n c j : Nat} {r : Nat → Nat} (hc : c < n) : sm (fun i => up f c r i j) n + f c j = sm (fun i => f i j) n + r j := by
  have h := sm_at (f := fun i => f i j) (v := r j) hc
  rw [← h]
  congr 2
  funext i
  unfold up
  split <;> rfl
theorem sm_same {D D' : gB} {n j : Nat} (h : ∀ c, D'.2 c j = D.2 c j) : sm (fun c => D'.2 c j) n = sm (fun c => D.2 c j) n := by
  congr 1
  funext c
  exact h c
/-- how a step changes the other side: heads by x, customer c by y -/
theorem Sms.step {n c : Nat} {D D' : gB} {g g4 g6 mi la : Nat} (h : Sms n D) (hc : c < n) (h3 : D'.1 3 = D.1 3 + g) (h4 : D'.1 4 = D.1 4 + g4) (h6 : D'.1 6 = D.1 6 + g6) (h9 : D'.1 9 = D.1 9 + mi) (h10 : D'.1 10 = D.1 10 + la) (hr : ∀ i, i ≠ c → D'.2 i = D.2 i) (k9 : D'.2 c 9 = D.2 c 9 + g) (k10 : D'.2 c 10 = D.2 c 10 + g4) (k11 : D'.2 c 11 = D.2 c 11 + g6) (k12 : D'.2 c 12 = D.2 c 12 + mi) (k13 : D'.2 c 13 = D.2 c 13 + la) : Sms n D' := by
  have e : D'.2 = up D.2 c (D'.2 c) := by
    funext i
    unfold up
    split
    · rename_i q
      rw [q]
    · rename_i q
      exact hr i q
  obtain ⟨a1, a2, a3, a4, a5⟩ := h
  have s (j : Nat) := sm_up (f := D.2) (n := n) (c := c) (j := j) (r := D'.2 c) hc
  rw [← e] at s
  have s9 := s 9
  have s10 := s 10
  have s11 := s 11
  have s12 := s 12
  have s13 := s 13
  exact ⟨by omega, by omega, by omega, by omega, by omega⟩
theorem stD_spec (S : gB) (d : Nat) (D : gB) (van c : Nat) : ∃ g mi la : Nat, g ≤ van ∧ g ≤ du S c d ∧ (stD S d (D, van) c).2 = van - g ∧ (stD S d (D, van) c).1.1 3 = D.1 3 + g ∧ (stD S d (D, van) c).1.1 9 = D.1 9 + mi ∧ (stD S d (D, van) c).1.1 10 = D.1 10 + la ∧ (∀ i, i ≠ 3 → i ≠ 7 → i ≠ 9 → i ≠ 10 → (stD S d (D, van) c).1.1 i = D.1 i) ∧ (∀ i, i ≠ c → (stD S d (D, van) c).1.2 i = D.2 i) ∧ (stD S d (D, van) c).1.2 c 8 = D.2 c 8 + (du S c d - g) ∧ (stD S d (D, van) c).1.2 c 9 = D.2 c 9 + g ∧ (stD S d (D, van) c).1.2 c 12 = D.2 c 12 + mi ∧ (stD S d (D, van) c).1.2 c 13 = D.2 c 13 + la ∧ ∀ j, j ≠ 8 → j ≠ 9 → j ≠ 12 → j ≠ 13 → (stD S d (D, van) c).1.2 c j = D.2 c j := by
  unfold stD
  simp only
  obtain ⟨g, hg⟩ : ∃ g, g = if op S c d = true then min (du S c d) van else 0 := ⟨_, rfl⟩
  rw [← hg]
  have hgv : g ≤ van ∧ g ≤ du S c d := by
    rw [hg]
    split
    · exact ⟨Nat.min_le_right _ _, Nat.min_le_left _ _⟩
    · exact ⟨Nat.zero_le _, Nat.zero_le _⟩
  obtain ⟨mi, hmi⟩ : ∃ mi, mi = if 0 < du S c d ∧ g = 0 then 1 else 0 := ⟨_, rfl⟩
  obtain ⟨la, hla⟩ : ∃ la, la = if 0 < g ∧ g < du S c d then 1 else 0 := ⟨_, rfl⟩
  rw [← hmi, ← hla]
  refine ⟨g, mi, la, hgv.1, hgv.2, rfl, ?_, ?_, ?_, ?_, ?_, ?_, ?_, ?_, ?_, ?_⟩
  · simp [sH, sC, up]
  · simp [sH, sC, up]
  · simp [sH, sC, up]
  · intro i h1 h2 h3 h4
    simp [sH, sC, up, h1, h2, h3, h4]
  · intro i hi
    simp [sH, sC, up, hi]
  · simp [sH, sC, up]
  · simp [sH, sC, up]
  · simp [sH, sC, up]
  · simp [sH, sC, up]
  · intro j h1 h2 h3 h4
    simp [sH, sC, up, h1, h2, h3, h4]
theorem stG_spec (S : gB) (d : Nat) (D : gB) (van c : Nat) : ∃ g : Nat, g ≤ van ∧ g ≤ D.2 c 8 ∧ (stG S d (D, van) c).2 = van - g ∧ (stG S d (D, van) c).1.1 4 = D.1 4 + g ∧ (∀ i, i ≠ 4 → (stG S d (D, van) c).1.1 i = D.1 i) ∧ (∀ i, i ≠ c → (stG S d (D, van) c).1.2 i = D.2 i) ∧ (stG S d (D, van) c).1.2 c 8 = D.2 c 8 - g ∧ (stG S d (D, van) c).1.2 c 10 = D.2 c 10 + g ∧ ∀ j, j ≠ 8 → j ≠ 10 → (stG S d (D, van) c).1.2 c j = D.2 c j := by
  unfold stG
  simp only
  obtain ⟨g, hg⟩ : ∃ g, g = if (op S c d && !aw S c d) = true then min (min (D.2 c 8) (S.1 13)) van else 0 := ⟨_, rfl⟩
  rw [← hg]
  have hgv : g ≤ van ∧ g ≤ D.2 c 8 := by
    rw [hg]
    split
    · exact ⟨Nat.min_le_right _ _, Nat.le_trans (Nat.min_le_left _ _) (Nat.min_le_left _ _)⟩
    · exact ⟨Nat.zero_le _, Nat.zero_le _⟩
  refine ⟨g, hgv.1, hgv.2, rfl, ?_, ?_, ?_, ?_, ?_, ?_⟩
  · simp [sH, sC, up]
  · intro i h1
    simp [sH, sC, up, h1]
  · intro i hi
    simp [sH, sC, up, hi]
  · simp [sH, sC, up]
  · simp [sH, sC, up]
  · intro j h1 h2
    simp [sH, sC, up, h1, h2]
theorem stP_spec (S : gB) (D : gB) (c : Nat) : ∃ g : Nat, g = D.2 c 8 - S.1 14 ∧ (stP S D c).1 6 = D.1 6 + g ∧ (stP S D c).1 8 = D.1 8 + g * S.1 15 ∧ (∀ i, i ≠ 6 → i ≠ 8 → (stP S D c).1 i = D.1 i) ∧ (∀ i, i ≠ c → (stP S D c).2 i = D.2 i) ∧ (stP S D c).2 c 8 = D.2 c 8 - g ∧ (stP S D c).2 c 11 = D.2 c 11 + g ∧ ∀ j, j ≠ 8 → j ≠ 11 → (stP S D c).2 c j = D.2 c j := by
  unfold stP
  simp only
  refine ⟨_, rfl, ?_, ?_, ?_, ?_, ?_, ?_, ?_⟩
  · simp [sH, sC, up]
  · simp [sH, sC, up]
  · intro i h1 h2
    simp [sH, sC, up, h1, h2]
  · intro i hi
    simp [sH, sC, up, hi]
  · simp [sH, sC, up]
  · simp [sH, sC, up]
  · intro j h1 h2
    simp [sH, sC, up, h1, h2]
/-! folds -/
theorem foldD {B : Nat} {S : gB} (hI : Is B S) (d : Nat) : ∀ (xs : List Nat), (∀ c ∈ xs, c < S.1 0) → ∀ (D : gB) (van b : Nat), Sms (S.1 0) D → (∀ c, c < S.1 0 → D.2 c 8 ≤ b) → Sms (S.1 0) (xs.foldl (stD S d) (D, van)).1 ∧ (∀ c, c < S.1 0 → (xs.foldl (stD S d) (D, van)).1.2 c 8 ≤ b + 9 * xs.length) ∧ (xs.foldl (stD S d) (D, van)).2 ≤ van ∧ (xs.foldl (stD S d) (D, van)).1.1 3 + (xs.foldl (stD S d) (D, van)).2 = D.1 3 + van ∧ (∀ i, i ≠ 3 → i ≠ 7 → i ≠ 9 → i ≠ 10 → (xs.foldl (stD S d) (D, van)).1.1 i = D.1 i)
  | [], _, D, van, b, h1, h2 => ⟨h1, fun c hc => by have := h2 c hc; simpa using this, Nat.le_refl _, rfl, fun _ _ _ _ _ => rfl⟩
  | c :: xs, hx, D, van, b, h1, h2 => by
    have hc := hx c List.mem_cons_self
    obtain ⟨g, mi, la, q1, q2, q3, q4, q5, q6, q7, q8, q9, q10, q11, q12, q13⟩ := stD_spec S d D van c
    have hdu := du_le (d := d) hI hc
    have hs : Sms (S.1 0) (stD S d (D, van) c).1 := h1.step (g := g) (g4 := 0) (g6 := 0) (mi := mi) (la := la) hc q4 (by rw [q7 4 (by omega) (by omega) (by omega) (by omega)]; rfl) (by rw [q7 6 (by omega) (by omega) (by omega) (by omega)]; rfl) q5 q6 q8 q10 (by rw [q13 10 (by omega) (by omega) (by omega) (by omega)]; rfl) (by rw [q13 11 (by omega) (by omega) (by omega) (by omega)]; rfl) q11 q12
    have hb : ∀ c', c' < S.1 0 → (stD S d (D, van) c).1.2 c' 8 ≤ b + 9 := fun c' hc' => by
      have h3 := h2 c' hc'
      by_cases e : c' = c
      · subst e
        rw [q9]
        omega
      · rw [q8 c' e]
        omega
    obtain ⟨r1, r2, r3, r4, r5⟩ := foldD hI d xs (fun c' hc' => hx c' (List.mem_cons_of_mem _ hc')) (stD S d (D, van) c).1 (stD S d (D, van) c).2 (b + 9) hs hb
    rw [show ((stD S d (D, van) c).1, (stD S d (D, van) c).2) = stD S d (D, van) c from rfl] at r1 r2 r3 r4 r5
    refine ⟨r1, fun c' hc' => ?_, ?_, ?_, fun i i1 i2 i3 i4 => ?_⟩
    · have := r2 c' hc'
      simp only [List.foldl_cons, List.length_cons]
      omega
    · simp only [List.foldl_cons]
      omega
    · simp only [List.foldl_cons]
      omega
    · simp only [List.foldl_cons]
      rw [r5 i i1 i2 i3 i4, q7 i i1 i2 i3 i4]
theorem foldG {S : gB} (d : Nat) : ∀ (xs : List Nat), (∀ c ∈ xs, c < S.1 0) → ∀ (D : gB) (van b : Nat), Sms (S.1 0) D → (∀ c, c < S.1 0 → D.2 c 8 ≤ b) → Sms (S.1 0) (xs.foldl (stG S d) (D, van)).1 ∧ (∀ c, c < S.1 0 → (xs.foldl (stG S d) (D, van)).1.2 c 8 ≤ b) ∧ (xs.foldl (stG S d) (D, van)).2 ≤ van ∧ (xs.foldl (stG S d) (D, van)).1.1 4 + (xs.foldl (stG S d) (D, van)).2 = D.1 4 + van ∧ (∀ i, i ≠ 4 → (xs.foldl (stG S d) (D, van)).1.1 i = D.1 i)
  | [], _, D, van, b, h1, h2 => ⟨h1, h2, Nat.le_refl _, rfl, fun _ _ => rfl⟩
  | c :: xs, hx, D, van, b, h1, h2 => by
    have hc := hx c List.mem_cons_self
    obtain ⟨g, q1, q2, q3, q4, q5, q6, q7, q8, q9⟩ := stG_spec S d D van c
    have hs : Sms (S.1 0) (stG S d (D, van) c).1 := h1.step (g := 0) (g4 := g) (g6 := 0) (mi := 0) (la := 0) hc (by rw [q5 3 (by omega)]; rfl) q4 (by rw [q5 6 (by omega)]; rfl) (by rw [q5 9 (by omega)]; rfl) (by rw [q5 10 (by omega)]; rfl) q6 (by rw [q9 9 (by omega) (by omega)]; rfl) q8 (by rw [q9 11 (by omega) (by omega)]; rfl) (by rw [q9 12 (by omega) (by omega)]; rfl) (by rw [q9 13 (by omega) (by omega)]; rfl)
    have hb : ∀ c', c' < S.1 0 → (stG S d (D, van) c).1.2 c' 8 ≤ b := fun c' hc' => by
      have h3 := h2 c' hc'
      by_cases e : c' = c
      · subst e
        rw [q7]
        omega
      · rw [q6 c' e]
        omega
    obtain ⟨r1, r2, r3, r4, r5⟩ := foldG d xs (fun c' hc' => hx c' (List.mem_cons_of_mem _ hc')) (stG S d (D, van) c).1 (stG S d (D, van) c).2 b hs hb
    rw [show ((stG S d (D, van) c).1, (stG S d (D, van) c).2) = stG S d (D, van) c from rfl] at r1 r2 r3 r4 r5
    refine ⟨r1, r2, ?_, ?_, fun i i1 => ?_⟩
    · simp only [List.foldl_cons]
      omega
    · simp only [List.foldl_cons]
      omega
    · simp only [List.foldl_cons]
      rw [r5 i i1, q5 i i1]
theorem foldP {S : gB} : ∀ (j c : Nat) (D : gB), c + j = S.1 0 → Sms (S.1 0) D → (∀ i, i < c → D.2 i 8 ≤ S.1 14) → Sms (S.1 0) ((List.range' c j).foldl (stP S) D) ∧ (∀ i, i < S.1 0 → ((List.range' c j).foldl (stP S) D).2 i 8 ≤ S.1 14) ∧ (∀ i, i ≠ 6 → i ≠ 8 → ((List.range' c j).foldl (stP S) D).1 i = D.1 i)
  | 0, c, D, hc, h1, h2 => ⟨h1, fun i hi => h2 i (by omega), fun _ _ _ => rfl⟩
  | j + 1, c, D, hcj, h1, h2 => by
    have hc : c < S.1 0 := by omega
    obtain ⟨g, q1, q2, q3, q4, q5, q6, q7, q8⟩ := stP_spec S D c
    have hs : Sms (S.1 0) (stP S D c) := h1.step (g := 0) (g4 := 0) (g6 := g) (mi := 0) (la := 0) hc (by rw [q4 3 (by omega) (by omega)]; rfl) (by rw [q4 4 (by omega) (by omega)]; rfl) q2 (by rw [q4 9 (by omega) (by omega)]; rfl) (by rw [q4 10 (by omega) (by omega)]; rfl) q5 (by rw [q8 9 (by omega) (by omega)]; rfl) (by rw [q8 10 (by omega) (by omega)]; rfl) q7 (by rw [q8 12 (by omega) (by omega)]; rfl) (by rw [q8 13 (by omega) (by omega)]; rfl)
    obtain ⟨r1, r2, r3⟩ := foldP j (c + 1) (stP S D c) (by omega) hs (fun i hi => by
      by_cases e : i = c
      · subst e
        rw [q6]
        omega
      · rw [q5 i e]
        exact h2 i (by omega))
    refine ⟨r1, r2, fun i i1 i2 => ?_⟩
    rw [List.range'_succ, List.foldl_cons, r3 i i1 i2, q4 i i1 i2]
theorem Id.sms {n : Nat} {D : gB} (h : Id n D) : Sms n D := h.2
/-- a day keeps what holds, and gives as much as it takes from the van -/
theorem dayD_spec {B : Nat} {S D : gB} (hI : Is B S) (hD : Id (S.1 0) D) : Id (S.1 0) (dayD S D) ∧ ∃ left, left ≤ bk S (S.1 1) ∧ (dayD S D).1 3 + (dayD S D).1 4 = D.1 3 + D.1 4 + (bk S (S.1 1) - left) ∧ left = ((rnd S).foldl (stG S (S.1 1)) ((rnd S).foldl (stD S (S.1 1)) (sH D 2 (D.1 2 + bk S (S.1 1)), bk S (S.1 1)))).2 := by
  have hm : ∀ c ∈ rnd S, c < S.1 0 := fun c hc => (rnd_mem hI c).mp hc
  have h0 : Sms (S.1 0) (sH D 2 (D.1 2 + bk S (S.1 1))) := by
    obtain ⟨a1, a2, a3, a4, a5⟩ := hD.2
    refine ⟨?_, ?_, ?_, ?_, ?_⟩ <;> simp [sH, up] <;> assumption
  obtain ⟨d1, d2, d3, d4, d5⟩ := foldD hI (S.1 1) (rnd S) hm (sH D 2 (D.1 2 + bk S (S.1 1))) (bk S (S.1 1)) 30 h0 (fun c hc => hD.1 c hc)
  obtain ⟨z, hz⟩ : ∃ z, z = (rnd S).foldl (stD S (S.1 1)) (sH D 2 (D.1 2 + bk S (S.1 1)), bk S (S.1 1)) := ⟨_, rfl⟩
  rw [← hz] at d1 d2 d3 d4 d5
  obtain ⟨g1, g2, g3, g4, g5⟩ := foldG (S.1 1) (rnd S) hm z.1 z.2 _ d1 d2
  obtain ⟨y, hy⟩ : ∃ y, y = (rnd S).foldl (stG S (S.1 1)) (z.1, z.2) := ⟨_, rfl⟩
  rw [← hy] at g1 g2 g3 g4 g5
  have h5 : Sms (S.1 0) (sH y.1 5 (y.1.1 5 + y.2)) := by
    obtain ⟨a1, a2, a3, a4, a5⟩ := g1
    refine ⟨?_, ?_, ?_, ?_, ?_⟩ <;> simp [sH, up] <;> assumption
  obtain ⟨p1, p2, p3⟩ := foldP (S.1 0) 0 (sH y.1 5 (y.1.1 5 + y.2)) (by omega) h5 (fun i hi => absurd hi (by omega))
  have e : dayD S D = (List.range' 0 (S.1 0)).foldl (stP S) (sH y.1 5 (y.1.1 5 + y.2)) := by
    unfold dayD
    simp only
    rw [← hz, List.range_eq_range']
    rw [show ((rnd S).foldl (stG S (S.1 1)) z) = y from hy.symm]
  have h14 := hI.2.2.1
  rw [e]
  refine ⟨⟨fun c hc => Nat.le_trans (p2 c hc) (by omega), p1⟩, y.2, by omega, ?_, ?_⟩
  · rw [p3 3 (by omega) (by omega), p3 4 (by omega) (by omega)]
    have a3 : (sH y.1 5 (y.1.1 5 + y.2)).1 3 = y.1.1 3 := by simp [sH, up]
    have a4 : (sH y.1 5 (y.1.1 5 + y.2)).1 4 = y.1.1 4 := by simp [sH, up]
    have b3 := g5 3 (by omega)
    have b4 := d5 4 (by omega) (by omega) (by omega) (by omega)
    have c3 : (sH D 2 (D.1 2 + bk S (S.1 1))).1 3 = D.1 3 := by simp [sH, up]
    have c4 : (sH D 2 (D.1 2 + bk S (S.1 1))).1 4 = D.1 4 := by simp [sH, up]
    rw [a3, a4, b3]
    rw [c3] at d4
    rw [c4] at b4
    omega
  · rw [← hz]
    exact congrArg Prod.snd hy
