/-! links: what the tables say, and the rows of fields by their links -/
theorem inG0 : ∀ w ∈ u_ws RX0 TX0 11, w ∈ gG := by decide +kernel
theorem inG1 : ∀ w ∈ u_ws RX1 TX1 11, w ∈ gG := by decide +kernel
theorem inG2 : ∀ w ∈ u_ws RX2 TX2 3, w ∈ gG := by decide +kernel
theorem inG3 : ∀ w ∈ u_ws RX4 TX4 2, w ∈ gG := by decide +kernel
theorem inG4 : ∀ w ∈ u_ws RX5 TX5 6, w ∈ gG := by decide +kernel
/-- the books of a system that begins at s -/
def gBks (s : Nat) : List Nat := [s + 128, s + 436] ++ (List.range 14).map (fun i => s + 761 + 308 * i) ++ [s + 5077, s + 5385]
def gBkL : List Nat := gBks 0 ++ gBks 5693
theorem gSy_bk (s : Nat) : ∀ b ∈ gBks s, ∀ x ∈ gBk b, x ∈ gSy s := by
  intro b hb x hx
  unfold gSy
  rcases List.mem_append.mp hb with hb | hb
  · rcases List.mem_append.mp hb with hb | hb
    · simp only [List.mem_cons, List.not_mem_nil, or_false] at hb
      rcases hb with rfl | rfl
      · exact List.mem_append_left _ (List.mem_append_left _ (List.mem_append_left _ (List.mem_append_left _ (List.mem_append_left _ (List.mem_append_left _ (List.mem_append_right _ hx))))))
      · exact List.mem_append_left _ (List.mem_append_left _ (List.mem_append_left _ (List.mem_append_left _ (List.mem_append_left _ (List.mem_append_right _ hx)))))
    · obtain ⟨i, hi, rfl⟩ := List.mem_map.mp hb
      exact List.mem_append_left _ (List.mem_append_left _ (List.mem_append_left _ (List.mem_append_right _ (List.mem_flatMap.mpr ⟨i, hi, hx⟩))))
  · simp only [List.mem_cons, List.not_mem_nil, or_false] at hb
    rcases hb with rfl | rfl
    · exact List.mem_append_left _ (List.mem_append_right _ hx)
    · exact List.mem_append_right _ hx
theorem gSy_of (s : Nat) : ∀ o ∈ gSy s, (o.2.1 = 0 ∨ o.2.1 = 1 ∨ o.2.1 = 10) → ∃ b, b ∈ gBks s ∧ o ∈ gBk b := by
  intro o ho h
  unfold gSy at ho
  unfold gBks
  rcases List.mem_append.mp ho with ho | ho
  · rcases List.mem_append.mp ho with ho | ho
    · rcases List.mem_append.mp ho with ho | ho
      · rcases List.mem_append.mp ho with ho | ho
        · rcases List.mem_append.mp ho with ho | ho
          · rcases List.mem_append.mp ho with ho | ho
            · rcases List.mem_append.mp ho with ho | ho
              · simp only [List.mem_cons, List.not_mem_nil, or_false] at ho
                rcases ho with rfl | rfl | rfl <;> simp at h
              · exact ⟨s + 128, by simp, ho⟩
            · exact ⟨s + 436, by simp, ho⟩
          · simp only [List.mem_cons, List.not_mem_nil, or_false] at ho
            rcases ho with rfl | rfl <;> simp at h
        · obtain ⟨i, hi, hx⟩ := List.mem_flatMap.mp ho
          exact ⟨s + 761 + 308 * i, List.mem_append_left _ (List.mem_append_right _ (List.mem_map.mpr ⟨i, hi, rfl⟩)), hx⟩
      · simp only [List.mem_cons, List.not_mem_nil, or_false] at ho
        rcases ho with rfl | rfl <;> simp at h
    · exact ⟨s + 5077, by simp, ho⟩
  · exact ⟨s + 5385, by simp, ho⟩
theorem gBkL_in : ∀ b ∈ gBkL, ∀ x ∈ gBk b, x ∈ gObs := by
  intro b hb x hx
  rcases List.mem_append.mp hb with hb | hb
  · exact List.mem_append_left _ (gSy_bk 0 b hb x hx)
  · exact List.mem_append_right _ (gSy_bk 5693 b hb x hx)
theorem gO_bk : ∀ o ∈ gObs, (o.2.1 = 0 ∨ o.2.1 = 1 ∨ o.2.1 = 10) → ∃ b, b ∈ gBkL ∧ o ∈ gBk b := by
  intro o ho h
  rcases List.mem_append.mp ho with ho | ho
  · obtain ⟨b, h1, h2⟩ := gSy_of 0 o ho h
    exact ⟨b, List.mem_append_left _ h1, h2⟩
  · obtain ⟨b, h1, h2⟩ := gSy_of 5693 o ho h
    exact ⟨b, List.mem_append_right _ h1, h2⟩
theorem gBk_0 {b : Nat} {o : Nat × Nat × Nat} (h : o ∈ gBk b) (h1 : o.2.1 = 0) : o = (b, 0, 0) := by
  unfold gBk at h
  rcases List.mem_append.mp h with h | h
  · simp only [List.mem_cons, List.not_mem_nil, or_false] at h
    rcases h with rfl | rfl | rfl | rfl | rfl | rfl <;> simp at h1 ⊢
  · obtain ⟨c, hc, h⟩ := List.mem_flatMap.mp h
    simp only [List.mem_cons, List.not_mem_nil, or_false] at h
    rcases h with rfl | rfl | rfl | rfl <;> simp at h1
theorem gBk_10 {b : Nat} {o : Nat × Nat × Nat} (h : o ∈ gBk b) (h1 : o.2.1 = 10) : o = (b + 11, 10, 10) := by
  unfold gBk at h
  rcases List.mem_append.mp h with h | h
  · simp only [List.mem_cons, List.not_mem_nil, or_false] at h
    rcases h with rfl | rfl | rfl | rfl | rfl | rfl <;> simp at h1 ⊢
  · obtain ⟨c, hc, h⟩ := List.mem_flatMap.mp h
    simp only [List.mem_cons, List.not_mem_nil, or_false] at h
    rcases h with rfl | rfl | rfl | rfl <;> simp at h1
theorem gBk_1 {b : Nat} {o : Nat × Nat × Nat} (h : o ∈ gBk b) (h1 : o.2.1 = 1) : ∃ c, c < 10 ∧ o = (b + 68 + 24 * c, 1, 0) := by
  unfold gBk at h
  rcases List.mem_append.mp h with h | h
  · simp only [List.mem_cons, List.not_mem_nil, or_false] at h
    rcases h with rfl | rfl | rfl | rfl | rfl | rfl <;> simp at h1
  · obtain ⟨c, hc, h⟩ := List.mem_flatMap.mp h
    simp only [List.mem_cons, List.not_mem_nil, or_false] at h
    rcases h with rfl | rfl | rfl | rfl <;> simp at h1
    exact ⟨c, List.mem_range.mp hc, rfl⟩
theorem gBk_m (b c : Nat) (hc : c < 10) : (b + 68 + 24 * c, 1, 0) ∈ gBk b ∧ (b + 68 + 24 * c + 11, 7, 7) ∈ gBk b ∧ (b + 68 + 24 * c + 18, 7, 3) ∈ gBk b ∧ (b + 68 + 24 * c + 21, 7, 3) ∈ gBk b := by
  have hr : c ∈ List.range 10 := List.mem_range.mpr hc
  unfold gBk
  refine ⟨List.mem_append_right _ (List.mem_flatMap.mpr ⟨c, hr, ?_⟩), List.mem_append_right _ (List.mem_flatMap.mpr ⟨c, hr, ?_⟩), List.mem_append_right _ (List.mem_flatMap.mpr ⟨c, hr, ?_⟩), List.mem_append_right _ (List.mem_flatMap.mpr ⟨c, hr, ?_⟩)⟩
  · simp
  · rw [show b + 68 + 24 * c + 11 = b + 79 + 24 * c by omega]; simp
  · rw [show b + 68 + 24 * c + 18 = b + 86 + 24 * c by omega]; simp
  · rw [show b + 68 + 24 * c + 21 = b + 89 + 24 * c by omega]; simp
def gFull (u : gU) : Prop := u.1 = gObs.length ∧ u.2.1 = gTau
theorem gIn_iff {u : gU} (h : gFull u) {a kd len : Nat} : gIn u a kd len ↔ (a, kd, len) ∈ gObs := by
  unfold gIn
  rw [h.1, List.take_length]
theorem gV0_6 : ∀ o ∈ gObs, o.2.1 = 0 → o.2.2 = 0 → gTau (o.1 + 6) = o.1 + 11 + 1 := by decide +kernel
theorem gB0_6 : ∀ o ∈ gObs, o.2.1 = 0 → o.2.2 = 0 → gTau (o.1 + 6) = o.1 + 11 + 1 ∧ (o.1 + 11, 10, 10) ∈ gObs := fun o ho h1 h2 => ⟨gV0_6 o ho h1 h2, by
  obtain ⟨b, hb, hin⟩ := gO_bk o ho (Or.inl h1)
  have e := gBk_0 hin h1
  subst e
  exact gBkL_in b hb _ (List.mem_append_left _ (by simp))⟩
theorem gF0_6 {u : gU} {a : Nat} (h : gFull u) (ha : gIn u a 0 0) : u.2.1 (a + 6) = a + 11 + 1 ∧ gIn u (a + 11) 10 10 := by
  have q := gB0_6 _ ((gIn_iff h).mp ha) rfl rfl
  exact ⟨by rw [h.2]; exact q.1, (gIn_iff h).mpr q.2⟩
theorem gV0_7 : ∀ o ∈ gObs, o.2.1 = 0 → o.2.2 = 0 → gTau (o.1 + 7) = o.1 + 21 + 1 := by decide +kernel
theorem gB0_7 : ∀ o ∈ gObs, o.2.1 = 0 → o.2.2 = 0 → gTau (o.1 + 7) = o.1 + 21 + 1 ∧ (o.1 + 21, 8, 28) ∈ gObs := fun o ho h1 h2 => ⟨gV0_7 o ho h1 h2, by
  obtain ⟨b, hb, hin⟩ := gO_bk o ho (Or.inl h1)
  have e := gBk_0 hin h1
  subst e
  exact gBkL_in b hb _ (List.mem_append_left _ (by simp))⟩
theorem gF0_7 {u : gU} {a : Nat} (h : gFull u) (ha : gIn u a 0 0) : u.2.1 (a + 7) = a + 21 + 1 ∧ gIn u (a + 21) 8 28 := by
  have q := gB0_7 _ ((gIn_iff h).mp ha) rfl rfl
  exact ⟨by rw [h.2]; exact q.1, (gIn_iff h).mpr q.2⟩
theorem gV0_8 : ∀ o ∈ gObs, o.2.1 = 0 → o.2.2 = 0 → gTau (o.1 + 8) = o.1 + 49 + 1 := by decide +kernel
theorem gB0_8 : ∀ o ∈ gObs, o.2.1 = 0 → o.2.2 = 0 → gTau (o.1 + 8) = o.1 + 49 + 1 ∧ (o.1 + 49, 7, 4) ∈ gObs := fun o ho h1 h2 => ⟨gV0_8 o ho h1 h2, by
  obtain ⟨b, hb, hin⟩ := gO_bk o ho (Or.inl h1)
  have e := gBk_0 hin h1
  subst e
  exact gBkL_in b hb _ (List.mem_append_left _ (by simp))⟩
theorem gF0_8 {u : gU} {a : Nat} (h : gFull u) (ha : gIn u a 0 0) : u.2.1 (a + 8) = a + 49 + 1 ∧ gIn u (a + 49) 7 4 := by
  have q := gB0_8 _ ((gIn_iff h).mp ha) rfl rfl
  exact ⟨by rw [h.2]; exact q.1, (gIn_iff h).mpr q.2⟩
theorem gV0_9 : ∀ o ∈ gObs, o.2.1 = 0 → o.2.2 = 0 → gTau (o.1 + 9) = o.1 + 53 + 1 := by decide +kernel
theorem gB0_9 : ∀ o ∈ gObs, o.2.1 = 0 → o.2.2 = 0 → gTau (o.1 + 9) = o.1 + 53 + 1 ∧ (o.1 + 53, 7, 5) ∈ gObs := fun o ho h1 h2 => ⟨gV0_9 o ho h1 h2, by
  obtain ⟨b, hb, hin⟩ := gO_bk o ho (Or.inl h1)
  have e := gBk_0 hin h1
  subst e
  exact gBkL_in b hb _ (List.mem_append_left _ (by simp))⟩
theorem gF0_9 {u : gU} {a : Nat} (h : gFull u) (ha : gIn u a 0 0) : u.2.1 (a + 9) = a + 53 + 1 ∧ gIn u (a + 53) 7 5 := by
  have q := gB0_9 _ ((gIn_iff h).mp ha) rfl rfl
  exact ⟨by rw [h.2]; exact q.1, (gIn_iff h).mpr q.2⟩
theorem gV0_10 : ∀ o ∈ gObs, o.2.1 = 0 → o.2.2 = 0 → gTau (o.1 + 10) = o.1 + 58 + 1 := by decide +kernel
theorem gB0_10 : ∀ o ∈ gObs, o.2.1 = 0 → o.2.2 = 0 → gTau (o.1 + 10) = o.1 + 58 + 1 ∧ (o.1 + 58, 7, 10) ∈ gObs := fun o ho h1 h2 => ⟨gV0_10 o ho h1 h2, by
  obtain ⟨b, hb, hin⟩ := gO_bk o ho (Or.inl h1)
  have e := gBk_0 hin h1
  subst e
  exact gBkL_in b hb _ (List.mem_append_left _ (by simp))⟩
theorem gF0_10 {u : gU} {a : Nat} (h : gFull u) (ha : gIn u a 0 0) : u.2.1 (a + 10) = a + 58 + 1 ∧ gIn u (a + 58) 7 10 := by
  have q := gB0_10 _ ((gIn_iff h).mp ha) rfl rfl
  exact ⟨by rw [h.2]; exact q.1, (gIn_iff h).mpr q.2⟩
theorem gV1_8 : ∀ o ∈ gObs, o.2.1 = 1 → o.2.2 = 0 → gTau (o.1 + 8) = o.1 + 11 + 1 := by decide +kernel
theorem gB1_8 : ∀ o ∈ gObs, o.2.1 = 1 → o.2.2 = 0 → gTau (o.1 + 8) = o.1 + 11 + 1 ∧ (o.1 + 11, 7, 7) ∈ gObs := fun o ho h1 h2 => ⟨gV1_8 o ho h1 h2, by
  obtain ⟨b, hb, hin⟩ := gO_bk o ho (Or.inr (Or.inl h1))
  obtain ⟨c, hc, e⟩ := gBk_1 hin h1
  subst e
  have q := gBk_m b c hc
  exact gBkL_in b hb _ (by first | exact q.2.1 | exact q.2.2.1 | exact q.2.2.2)⟩
theorem gF1_8 {u : gU} {a : Nat} (h : gFull u) (ha : gIn u a 1 0) : u.2.1 (a + 8) = a + 11 + 1 ∧ gIn u (a + 11) 7 7 := by
  have q := gB1_8 _ ((gIn_iff h).mp ha) rfl rfl
  exact ⟨by rw [h.2]; exact q.1, (gIn_iff h).mpr q.2⟩
theorem gV1_9 : ∀ o ∈ gObs, o.2.1 = 1 → o.2.2 = 0 → gTau (o.1 + 9) = o.1 + 18 + 1 := by decide +kernel
theorem gB1_9 : ∀ o ∈ gObs, o.2.1 = 1 → o.2.2 = 0 → gTau (o.1 + 9) = o.1 + 18 + 1 ∧ (o.1 + 18, 7, 3) ∈ gObs := fun o ho h1 h2 => ⟨gV1_9 o ho h1 h2, by
  obtain ⟨b, hb, hin⟩ := gO_bk o ho (Or.inr (Or.inl h1))
  obtain ⟨c, hc, e⟩ := gBk_1 hin h1
  subst e
  have q := gBk_m b c hc
  exact gBkL_in b hb _ (by first | exact q.2.1 | exact q.2.2.1 | exact q.2.2.2)⟩
theorem gF1_9 {u : gU} {a : Nat} (h : gFull u) (ha : gIn u a 1 0) : u.2.1 (a + 9) = a + 18 + 1 ∧ gIn u (a + 18) 7 3 := by
  have q := gB1_9 _ ((gIn_iff h).mp ha) rfl rfl
  exact ⟨by rw [h.2]; exact q.1, (gIn_iff h).mpr q.2⟩
theorem gV1_10 : ∀ o ∈ gObs, o.2.1 = 1 → o.2.2 = 0 → gTau (o.1 + 10) = o.1 + 21 + 1 := by decide +kernel
theorem gB1_10 : ∀ o ∈ gObs, o.2.1 = 1 → o.2.2 = 0 → gTau (o.1 + 10) = o.1 + 21 + 1 ∧ (o.1 + 21, 7, 3) ∈ gObs := fun o ho h1 h2 => ⟨gV1_10 o ho h1 h2, by
  obtain ⟨b, hb, hin⟩ := gO_bk o ho (Or.inr (Or.inl h1))
  obtain ⟨c, hc, e⟩ := gBk_1 hin h1
  subst e
  have q := gBk_m b c hc
  exact gBkL_in b hb _ (by first | exact q.2.1 | exact q.2.2.1 | exact q.2.2.2)⟩
theorem gF1_10 {u : gU} {a : Nat} (h : gFull u) (ha : gIn u a 1 0) : u.2.1 (a + 10) = a + 21 + 1 ∧ gIn u (a + 21) 7 3 := by
  have q := gB1_10 _ ((gIn_iff h).mp ha) rfl rfl
  exact ⟨by rw [h.2]; exact q.1, (gIn_iff h).mpr q.2⟩
theorem gB2_0 : ∀ o ∈ gObs, o.2.1 = 2 → o.2.2 = 0 → gTau (o.1 + 0) = o.1 + 3 + 1 ∧ (o.1 + 3, 9, 14) ∈ gObs := by decide +kernel
theorem gF2_0 {u : gU} {a : Nat} (h : gFull u) (ha : gIn u a 2 0) : u.2.1 (a + 0) = a + 3 + 1 ∧ gIn u (a + 3) 9 14 := by
  have q := gB2_0 _ ((gIn_iff h).mp ha) rfl rfl
  exact ⟨by rw [h.2]; exact q.1, (gIn_iff h).mpr q.2⟩
theorem gB3_0 : ∀ o ∈ gObs, o.2.1 = 3 → o.2.2 = 0 → gTau (o.1 + 0) = o.1 + 2 + 1 ∧ (o.1 + 2, 6, 120) ∈ gObs := by decide +kernel
theorem gF3_0 {u : gU} {a : Nat} (h : gFull u) (ha : gIn u a 3 0) : u.2.1 (a + 0) = a + 2 + 1 ∧ gIn u (a + 2) 6 120 := by
  have q := gB3_0 _ ((gIn_iff h).mp ha) rfl rfl
  exact ⟨by rw [h.2]; exact q.1, (gIn_iff h).mpr q.2⟩
theorem gB4_0 : ∀ o ∈ gObs, o.2.1 = 4 → o.2.2 = 0 → gTau (o.1 + 0) = o.1 + 6 + 1 ∧ (o.1 + 6, 3, 0) ∈ gObs := by decide +kernel
theorem gF4_0 {u : gU} {a : Nat} (h : gFull u) (ha : gIn u a 4 0) : u.2.1 (a + 0) = a + 6 + 1 ∧ gIn u (a + 6) 3 0 := by
  have q := gB4_0 _ ((gIn_iff h).mp ha) rfl rfl
  exact ⟨by rw [h.2]; exact q.1, (gIn_iff h).mpr q.2⟩
theorem gB4_1 : ∀ o ∈ gObs, o.2.1 = 4 → o.2.2 = 0 → gTau (o.1 + 1) = o.1 + 128 + 1 ∧ (o.1 + 128, 0, 0) ∈ gObs := by decide +kernel
theorem gF4_1 {u : gU} {a : Nat} (h : gFull u) (ha : gIn u a 4 0) : u.2.1 (a + 1) = a + 128 + 1 ∧ gIn u (a + 128) 0 0 := by
  have q := gB4_1 _ ((gIn_iff h).mp ha) rfl rfl
  exact ⟨by rw [h.2]; exact q.1, (gIn_iff h).mpr q.2⟩
theorem gB4_2 : ∀ o ∈ gObs, o.2.1 = 4 → o.2.2 = 0 → gTau (o.1 + 2) = o.1 + 436 + 1 ∧ (o.1 + 436, 0, 0) ∈ gObs := by decide +kernel
theorem gF4_2 {u : gU} {a : Nat} (h : gFull u) (ha : gIn u a 4 0) : u.2.1 (a + 2) = a + 436 + 1 ∧ gIn u (a + 436) 0 0 := by
  have q := gB4_2 _ ((gIn_iff h).mp ha) rfl rfl
  exact ⟨by rw [h.2]; exact q.1, (gIn_iff h).mpr q.2⟩
theorem gB4_3 : ∀ o ∈ gObs, o.2.1 = 4 → o.2.2 = 0 → gTau (o.1 + 3) = o.1 + 744 + 1 ∧ (o.1 + 744, 2, 0) ∈ gObs := by decide +kernel
theorem gF4_3 {u : gU} {a : Nat} (h : gFull u) (ha : gIn u a 4 0) : u.2.1 (a + 3) = a + 744 + 1 ∧ gIn u (a + 744) 2 0 := by
  have q := gB4_3 _ ((gIn_iff h).mp ha) rfl rfl
  exact ⟨by rw [h.2]; exact q.1, (gIn_iff h).mpr q.2⟩
theorem gB4_4 : ∀ o ∈ gObs, o.2.1 = 4 → o.2.2 = 0 → gTau (o.1 + 4) = o.1 + 5073 + 1 ∧ (o.1 + 5073, 9, 2) ∈ gObs := by decide +kernel
theorem gF4_4 {u : gU} {a : Nat} (h : gFull u) (ha : gIn u a 4 0) : u.2.1 (a + 4) = a + 5073 + 1 ∧ gIn u (a + 5073) 9 2 := by
  have q := gB4_4 _ ((gIn_iff h).mp ha) rfl rfl
  exact ⟨by rw [h.2]; exact q.1, (gIn_iff h).mpr q.2⟩
theorem gB4_5 : ∀ o ∈ gObs, o.2.1 = 4 → o.2.2 = 0 → gTau (o.1 + 5) = o.1 + 5075 + 1 ∧ (o.1 + 5075, 8, 2) ∈ gObs := by decide +kernel
theorem gF4_5 {u : gU} {a : Nat} (h : gFull u) (ha : gIn u a 4 0) : u.2.1 (a + 5) = a + 5075 + 1 ∧ gIn u (a + 5075) 8 2 := by
  have q := gB4_5 _ ((gIn_iff h).mp ha) rfl rfl
  exact ⟨by rw [h.2]; exact q.1, (gIn_iff h).mpr q.2⟩
theorem gV10 : ∀ o ∈ gObs, o.2.1 = 10 → o.2.2 = 10 → ∀ c, c < 10 → gTau (o.1 + c) = o.1 + 57 + 24 * c + 1 := by decide +kernel
theorem gB10 : ∀ o ∈ gObs, o.2.1 = 10 → o.2.2 = 10 → ∀ c, c < 10 → gTau (o.1 + c) = o.1 + 57 + 24 * c + 1 ∧ (o.1 + 57 + 24 * c, 1, 0) ∈ gObs := fun o ho h1 h2 c hc => ⟨gV10 o ho h1 h2 c hc, by
  obtain ⟨b, hb, hin⟩ := gO_bk o ho (Or.inr (Or.inr h1))
  have e := gBk_10 hin h1
  subst e
  have q := (gBk_m b c hc).1
  rw [show b + 68 + 24 * c = b + 11 + 57 + 24 * c by omega] at q
  exact gBkL_in b hb _ q⟩
theorem gB9_14 : ∀ o ∈ gObs, o.2.1 = 9 → o.2.2 = 14 → ∀ c, c < 14 → gTau (o.1 + c) = o.1 + 14 + 308 * c + 1 ∧ (o.1 + 14 + 308 * c, 0, 0) ∈ gObs := by decide +kernel
theorem gB9_2 : ∀ o ∈ gObs, o.2.1 = 9 → o.2.2 = 2 → ∀ c, c < 2 → gTau (o.1 + c) = o.1 + 4 + 308 * c + 1 ∧ (o.1 + 4 + 308 * c, 0, 0) ∈ gObs := by decide +kernel
theorem r_cust {Y : gY} {cc : ByteArray} {own : String} {pc : Nat} {ls : List (Option Value)} {st : List Value} {σ : gM} {β : Type} {o : β} {a : Nat} {i : Int32} {E : Nat → Option β} (hF : gFull Y.2.1) (hd : decode cc pc = .ok (.aaload, 1)) (ha : gIn Y.2.1 a 10 10) (h : gEl 10 i E = some o) (k : ∀ j, gIn Y.2.1 (a + 57 + 24 * j) 1 0 → E j = some o → AW Y cc own (pc + 1) ls (.ref (a + 57 + 24 * j) :: st) σ) : AW Y cc own pc ls (.int i :: .ref a :: st) σ := by
  have q := gB10 _ ((gIn_iff hF).mp ha) rfl rfl
  exact r_aald (kd := 10) (by decide) (by decide) rfl (fun j => a + 57 + 24 * j) hd ha (fun j hj => by rw [hF.2]; exact (q j hj).1) h (fun j hj hE => k j ((gIn_iff hF).mpr (q j hj).2) hE)
theorem r_states {Y : gY} {cc : ByteArray} {own : String} {pc : Nat} {ls : List (Option Value)} {st : List Value} {σ : gM} {β : Type} {o : β} {a : Nat} {i : Int32} {E : Nat → Option β} (hF : gFull Y.2.1) (hd : decode cc pc = .ok (.aaload, 1)) (ha : gIn Y.2.1 a 9 14) (h : gEl 14 i E = some o) (k : ∀ j, gIn Y.2.1 (a + 14 + 308 * j) 0 0 → E j = some o → AW Y cc own (pc + 1) ls (.ref (a + 14 + 308 * j) :: st) σ) : AW Y cc own pc ls (.int i :: .ref a :: st) σ := by
  have q := gB9_14 _ ((gIn_iff hF).mp ha) rfl rfl
  exact r_aald (kd := 9) (by decide) (by decide) rfl (fun j => a + 14 + 308 * j) hd ha (fun j hj => by rw [hF.2]; exact (q j hj).1) h (fun j hj hE => k j ((gIn_iff hF).mpr (q j hj).2) hE)
theorem r_slots {Y : gY} {cc : ByteArray} {own : String} {pc : Nat} {ls : List (Option Value)} {st : List Value} {σ : gM} {β : Type} {o : β} {a : Nat} {i : Int32} {E : Nat → Option β} (hF : gFull Y.2.1) (hd : decode cc pc = .ok (.aaload, 1)) (ha : gIn Y.2.1 a 9 2) (h : gEl 2 i E = some o) (k : ∀ j, gIn Y.2.1 (a + 4 + 308 * j) 0 0 → E j = some o → AW Y cc own (pc + 1) ls (.ref (a + 4 + 308 * j) :: st) σ) : AW Y cc own pc ls (.int i :: .ref a :: st) σ := by
  have q := gB9_2 _ ((gIn_iff hF).mp ha) rfl rfl
  exact r_aald (kd := 9) (by decide) (by decide) rfl (fun j => a + 4 + 308 * j) hd ha (fun j hj => by rw [hF.2]; exact (q j hj).1) h (fun j hj hE => k j ((gIn_iff hF).mpr (q j hj).2) hE)
theorem kfX5_10 : Cond.fieldLink RX5 10 (TX5 0).1 (TX5 0).2.1 (TX5 0).2.2.1 ∈ gG := gG_mem (List.mem_of_getElem? (i := 226) (by decide +kernel)) rfl
theorem fX5_10 {Y : gY} {cc : ByteArray} {pc : Nat} {ls : List (Option Value)} {st : List Value} {σ : gM} {a : Nat} (hF : gFull Y.2.1) (hd : decode cc pc = .ok (.getfield 10, 3)) (ha : gIn Y.2.1 a 4 0) (k : gIn Y.2.1 (a + 6) 3 0 → AW Y cc RX5 (pc + 3) ls (.ref (a + 6) :: st) σ) : AW Y cc RX5 pc ls (.ref a :: st) σ := r_getR (kd := 4) (j := 0) (C := RX5) (T := TX5) (N := 6) rfl (by decide) rfl (by decide) rfl inG4 kfX5_10 hd ha (gF4_0 hF ha).1 (k (gF4_0 hF ha).2)
theorem kfX5_19 : Cond.fieldLink RX5 19 (TX5 1).1 (TX5 1).2.1 (TX5 1).2.2.1 ∈ gG := gG_mem (List.mem_of_getElem? (i := 227) (by decide +kernel)) rfl
theorem fX5_19 {Y : gY} {cc : ByteArray} {pc : Nat} {ls : List (Option Value)} {st : List Value} {σ : gM} {a : Nat} (hF : gFull Y.2.1) (hd : decode cc pc = .ok (.getfield 19, 3)) (ha : gIn Y.2.1 a 4 0) (k : gIn Y.2.1 (a + 128) 0 0 → AW Y cc RX5 (pc + 3) ls (.ref (a + 128) :: st) σ) : AW Y cc RX5 pc ls (.ref a :: st) σ := r_getR (kd := 4) (j := 1) (C := RX5) (T := TX5) (N := 6) rfl (by decide) rfl (by decide) rfl inG4 kfX5_19 hd ha (gF4_1 hF ha).1 (k (gF4_1 hF ha).2)
theorem kfX5_23 : Cond.fieldLink RX5 23 (TX5 2).1 (TX5 2).2.1 (TX5 2).2.2.1 ∈ gG := gG_mem (List.mem_of_getElem? (i := 228) (by decide +kernel)) rfl
theorem fX5_23 {Y : gY} {cc : ByteArray} {pc : Nat} {ls : List (Option Value)} {st : List Value} {σ : gM} {a : Nat} (hF : gFull Y.2.1) (hd : decode cc pc = .ok (.getfield 23, 3)) (ha : gIn Y.2.1 a 4 0) (k : gIn Y.2.1 (a + 436) 0 0 → AW Y cc RX5 (pc + 3) ls (.ref (a + 436) :: st) σ) : AW Y cc RX5 pc ls (.ref a :: st) σ := r_getR (kd := 4) (j := 2) (C := RX5) (T := TX5) (N := 6) rfl (by decide) rfl (by decide) rfl inG4 kfX5_23 hd ha (gF4_2 hF ha).1 (k (gF4_2 hF ha).2)
theorem kfX5_29 : Cond.fieldLink RX5 29 (TX5 3).1 (TX5 3).2.1 (TX5 3).2.2.1 ∈ gG := gG_mem (List.mem_of_getElem? (i := 229) (by decide +kernel)) rfl
theorem fX5_29 {Y : gY} {cc : ByteArray} {pc : Nat} {ls : List (Option Value)} {st : List Value} {σ : gM} {a : Nat} (hF : gFull Y.2.1) (hd : decode cc pc = .ok (.getfield 29, 3)) (ha : gIn Y.2.1 a 4 0) (k : gIn Y.2.1 (a + 744) 2 0 → AW Y cc RX5 (pc + 3) ls (.ref (a + 744) :: st) σ) : AW Y cc RX5 pc ls (.ref a :: st) σ := r_getR (kd := 4) (j := 3) (C := RX5) (T := TX5) (N := 6) rfl (by decide) rfl (by decide) rfl inG4 kfX5_29 hd ha (gF4_3 hF ha).1 (k (gF4_3 hF ha).2)
theorem kfX5_33 : Cond.fieldLink RX5 33 (TX5 4).1 (TX5 4).2.1 (TX5 4).2.2.1 ∈ gG := gG_mem (List.mem_of_getElem? (i := 230) (by decide +kernel)) rfl
theorem fX5_33 {Y : gY} {cc : ByteArray} {pc : Nat} {ls : List (Option Value)} {st : List Value} {σ : gM} {a : Nat} (hF : gFull Y.2.1) (hd : decode cc pc = .ok (.getfield 33, 3)) (ha : gIn Y.2.1 a 4 0) (k : gIn Y.2.1 (a + 5073) 9 2 → AW Y cc RX5 (pc + 3) ls (.ref (a + 5073) :: st) σ) : AW Y cc RX5 pc ls (.ref a :: st) σ := r_getR (kd := 4) (j := 4) (C := RX5) (T := TX5) (N := 6) rfl (by decide) rfl (by decide) rfl inG4 kfX5_33 hd ha (gF4_4 hF ha).1 (k (gF4_4 hF ha).2)
theorem kfX5_37 : Cond.fieldLink RX5 37 (TX5 5).1 (TX5 5).2.1 (TX5 5).2.2.1 ∈ gG := gG_mem (List.mem_of_getElem? (i := 231) (by decide +kernel)) rfl
theorem fX5_37 {Y : gY} {cc : ByteArray} {pc : Nat} {ls : List (Option Value)} {st : List Value} {σ : gM} {a : Nat} (hF : gFull Y.2.1) (hd : decode cc pc = .ok (.getfield 37, 3)) (ha : gIn Y.2.1 a 4 0) (k : gIn Y.2.1 (a + 5075) 8 2 → AW Y cc RX5 (pc + 3) ls (.ref (a + 5075) :: st) σ) : AW Y cc RX5 pc ls (.ref a :: st) σ := r_getR (kd := 4) (j := 5) (C := RX5) (T := TX5) (N := 6) rfl (by decide) rfl (by decide) rfl inG4 kfX5_37 hd ha (gF4_5 hF ha).1 (k (gF4_5 hF ha).2)
theorem kfX0_11 : Cond.fieldLink RX0 11 (TX0 6).1 (TX0 6).2.1 (TX0 6).2.2.1 ∈ gG := gG_mem (List.mem_of_getElem? (i := 175) (by decide +kernel)) rfl
theorem fX0_11 {Y : gY} {cc : ByteArray} {pc : Nat} {ls : List (Option Value)} {st : List Value} {σ : gM} {a : Nat} (hF : gFull Y.2.1) (hd : decode cc pc = .ok (.getfield 11, 3)) (ha : gIn Y.2.1 a 0 0) (k : gIn Y.2.1 (a + 11) 10 10 → AW Y cc RX0 (pc + 3) ls (.ref (a + 11) :: st) σ) : AW Y cc RX0 pc ls (.ref a :: st) σ := r_getR (kd := 0) (j := 6) (C := RX0) (T := TX0) (N := 11) rfl (by decide) rfl (by decide) rfl inG0 kfX0_11 hd ha (gF0_6 hF ha).1 (k (gF0_6 hF ha).2)
theorem kfX0_17 : Cond.fieldLink RX0 17 (TX0 7).1 (TX0 7).2.1 (TX0 7).2.2.1 ∈ gG := gG_mem (List.mem_of_getElem? (i := 177) (by decide +kernel)) rfl
theorem fX0_17 {Y : gY} {cc : ByteArray} {pc : Nat} {ls : List (Option Value)} {st : List Value} {σ : gM} {a : Nat} (hF : gFull Y.2.1) (hd : decode cc pc = .ok (.getfield 17, 3)) (ha : gIn Y.2.1 a 0 0) (k : gIn Y.2.1 (a + 21) 8 28 → AW Y cc RX0 (pc + 3) ls (.ref (a + 21) :: st) σ) : AW Y cc RX0 pc ls (.ref a :: st) σ := r_getR (kd := 0) (j := 7) (C := RX0) (T := TX0) (N := 11) rfl (by decide) rfl (by decide) rfl inG0 kfX0_17 hd ha (gF0_7 hF ha).1 (k (gF0_7 hF ha).2)
theorem kfX0_21 : Cond.fieldLink RX0 21 (TX0 8).1 (TX0 8).2.1 (TX0 8).2.2.1 ∈ gG := gG_mem (List.mem_of_getElem? (i := 178) (by decide +kernel)) rfl
theorem fX0_21 {Y : gY} {cc : ByteArray} {pc : Nat} {ls : List (Option Value)} {st : List Value} {σ : gM} {a : Nat} (hF : gFull Y.2.1) (hd : decode cc pc = .ok (.getfield 21, 3)) (ha : gIn Y.2.1 a 0 0) (k : gIn Y.2.1 (a + 49) 7 4 → AW Y cc RX0 (pc + 3) ls (.ref (a + 49) :: st) σ) : AW Y cc RX0 pc ls (.ref a :: st) σ := r_getR (kd := 0) (j := 8) (C := RX0) (T := TX0) (N := 11) rfl (by decide) rfl (by decide) rfl inG0 kfX0_21 hd ha (gF0_8 hF ha).1 (k (gF0_8 hF ha).2)
theorem kfX0_25 : Cond.fieldLink RX0 25 (TX0 9).1 (TX0 9).2.1 (TX0 9).2.2.1 ∈ gG := gG_mem (List.mem_of_getElem? (i := 180) (by decide +kernel)) rfl
theorem fX0_25 {Y : gY} {cc : ByteArray} {pc : Nat} {ls : List (Option Value)} {st : List Value} {σ : gM} {a : Nat} (hF : gFull Y.2.1) (hd : decode cc pc = .ok (.getfield 25, 3)) (ha : gIn Y.2.1 a 0 0) (k : gIn Y.2.1 (a + 53) 7 5 → AW Y cc RX0 (pc + 3) ls (.ref (a + 53) :: st) σ) : AW Y cc RX0 pc ls (.ref a :: st) σ := r_getR (kd := 0) (j := 9) (C := RX0) (T := TX0) (N := 11) rfl (by decide) rfl (by decide) rfl inG0 kfX0_25 hd ha (gF0_9 hF ha).1 (k (gF0_9 hF ha).2)
theorem kfX0_28 : Cond.fieldLink RX0 28 (TX0 10).1 (TX0 10).2.1 (TX0 10).2.2.1 ∈ gG := gG_mem (List.mem_of_getElem? (i := 182) (by decide +kernel)) rfl
theorem fX0_28 {Y : gY} {cc : ByteArray} {pc : Nat} {ls : List (Option Value)} {st : List Value} {σ : gM} {a : Nat} (hF : gFull Y.2.1) (hd : decode cc pc = .ok (.getfield 28, 3)) (ha : gIn Y.2.1 a 0 0) (k : gIn Y.2.1 (a + 58) 7 10 → AW Y cc RX0 (pc + 3) ls (.ref (a + 58) :: st) σ) : AW Y cc RX0 pc ls (.ref a :: st) σ := r_getR (kd := 0) (j := 10) (C := RX0) (T := TX0) (N := 11) rfl (by decide) rfl (by decide) rfl inG0 kfX0_28 hd ha (gF0_10 hF ha).1 (k (gF0_10 hF ha).2)
theorem kfX0_35 : Cond.fieldLink RX0 35 (TX0 0).1 (TX0 0).2.1 (TX0 0).2.2.1 ∈ gG := gG_mem (List.mem_of_getElem? (i := 168) (by decide +kernel)) rfl
theorem fX0_35 {Y : gY} {cc : ByteArray} {pc : Nat} {ls : List (Option Value)} {st : List Value} {σ : gM} {β : Type} {o : β} {a : Nat} {E : Int32 → Option β} (hd : decode cc pc = .ok (.getfield 35, 3)) (ha : gIn Y.2.1 a 0 0) (h : gLt (σ (a + 0)) E = some o) (k : ∀ x, E x = some o → AW Y cc RX0 (pc + 3) ls (.int x :: st) σ) : AW Y cc RX0 pc ls (.ref a :: st) σ := r_getI (kd := 0) (j := 0) (C := RX0) (T := TX0) (N := 11) rfl (by decide) rfl (by decide) rfl inG0 kfX0_35 hd ha h k
theorem fX0_35p {Y : gY} {cc : ByteArray} {pc : Nat} {ls : List (Option Value)} {st : List Value} {σ : gM} {β : Type} {o : β} {a : Nat} {x : Int32} {E : gM → Option β} (hd : decode cc pc = .ok (.putfield 35, 3)) (ha : gIn Y.2.1 a 0 0) (h : gLt (upd σ (a + 0) x) E = some o) (k : ∀ σ1, E σ1 = some o → AW Y cc RX0 (pc + 3) ls st σ1) : AW Y cc RX0 pc ls (.int x :: .ref a :: st) σ := r_putI tyX0 tyX0_ok nmX0 (kd := 0) (j := 0) (C := RX0) (T := TX0) (N := 11) rfl (by decide) rfl (by decide) rfl inG0 kfX0_35 rfl (by decide +kernel) hd ha h k
theorem kfX0_39 : Cond.fieldLink RX0 39 (TX0 1).1 (TX0 1).2.1 (TX0 1).2.2.1 ∈ gG := gG_mem (List.mem_of_getElem? (i := 169) (by decide +kernel)) rfl
theorem fX0_39 {Y : gY} {cc : ByteArray} {pc : Nat} {ls : List (Option Value)} {st : List Value} {σ : gM} {β : Type} {o : β} {a : Nat} {E : Int32 → Option β} (hd : decode cc pc = .ok (.getfield 39, 3)) (ha : gIn Y.2.1 a 0 0) (h : gLt (σ (a + 1)) E = some o) (k : ∀ x, E x = some o → AW Y cc RX0 (pc + 3) ls (.int x :: st) σ) : AW Y cc RX0 pc ls (.ref a :: st) σ := r_getI (kd := 0) (j := 1) (C := RX0) (T := TX0) (N := 11) rfl (by decide) rfl (by decide) rfl inG0 kfX0_39 hd ha h k
theorem fX0_39p {Y : gY} {cc : ByteArray} {pc : Nat} {ls : List (Option Value)} {st : List Value} {σ : gM} {β : Type} {o : β} {a : Nat} {x : Int32} {E : gM → Option β} (hd : decode cc pc = .ok (.putfield 39, 3)) (ha : gIn Y.2.1 a 0 0) (h : gLt (upd σ (a + 1) x) E = some o) (k : ∀ σ1, E σ1 = some o → AW Y cc RX0 (pc + 3) ls st σ1) : AW Y cc RX0 pc ls (.int x :: .ref a :: st) σ := r_putI tyX0 tyX0_ok nmX0 (kd := 0) (j := 1) (C := RX0) (T := TX0) (N := 11) rfl (by decide) rfl (by decide) rfl inG0 kfX0_39 rfl (by decide +kernel) hd ha h k
theorem kfX0_42 : Cond.fieldLink RX0 42 (TX0 2).1 (TX0 2).2.1 (TX0 2).2.2.1 ∈ gG := gG_mem (List.mem_of_getElem? (i := 171) (by decide +kernel)) rfl
theorem fX0_42 {Y : gY} {cc : ByteArray} {pc : Nat} {ls : List (Option Value)} {st : List Value} {σ : gM} {β : Type} {o : β} {a : Nat} {E : Int32 → Option β} (hd : decode cc pc = .ok (.getfield 42, 3)) (ha : gIn Y.2.1 a 0 0) (h : gLt (σ (a + 2)) E = some o) (k : ∀ x, E x = some o → AW Y cc RX0 (pc + 3) ls (.int x :: st) σ) : AW Y cc RX0 pc ls (.ref a :: st) σ := r_getI (kd := 0) (j := 2) (C := RX0) (T := TX0) (N := 11) rfl (by decide) rfl (by decide) rfl inG0 kfX0_42 hd ha h k
theorem fX0_42p {Y : gY} {cc : ByteArray} {pc : Nat} {ls : List (Option Value)} {st : List Value} {σ : gM} {β : Type} {o : β} {a : Nat} {x : Int32} {E : gM → Option β} (hd : decode cc pc = .ok (.putfield 42, 3)) (ha : gIn Y.2.1 a 0 0) (h : gLt (upd σ (a + 2) x) E = some o) (k : ∀ σ1, E σ1 = some o → AW Y cc RX0 (pc + 3) ls st σ1) : AW Y cc RX0 pc ls (.int x :: .ref a :: st) σ := r_putI tyX0 tyX0_ok nmX0 (kd := 0) (j := 2) (C := RX0) (T := TX0) (N := 11) rfl (by decide) rfl (by decide) rfl inG0 kfX0_42 rfl (by decide +kernel) hd ha h k
theorem kfX0_45 : Cond.fieldLink RX0 45 (TX0 3).1 (TX0 3).2.1 (TX0 3).2.2.1 ∈ gG := gG_mem (List.mem_of_getElem? (i := 172) (by decide +kernel)) rfl
theorem fX0_45 {Y : gY} {cc : ByteArray} {pc : Nat} {ls : List (Option Value)} {st : List Value} {σ : gM} {β : Type} {o : β} {a : Nat} {E : Int32 → Option β} (hd : decode cc pc = .ok (.getfield 45, 3)) (ha : gIn Y.2.1 a 0 0) (h : gLt (σ (a + 3)) E = some o) (k : ∀ x, E x = some o → AW Y cc RX0 (pc + 3) ls (.int x :: st) σ) : AW Y cc RX0 pc ls (.ref a :: st) σ := r_getI (kd := 0) (j := 3) (C := RX0) (T := TX0) (N := 11) rfl (by decide) rfl (by decide) rfl inG0 kfX0_45 hd ha h k
theorem fX0_45p {Y : gY} {cc : ByteArray} {pc : Nat} {ls : List (Option Value)} {st : List Value} {σ : gM} {β : Type} {o : β} {a : Nat} {x : Int32} {E : gM → Option β} (hd : decode cc pc = .ok (.putfield 45, 3)) (ha : gIn Y.2.1 a 0 0) (h : gLt (upd σ (a + 3) x) E = some o) (k : ∀ σ1, E σ1 = some o → AW Y cc RX0 (pc + 3) ls st σ1) : AW Y cc RX0 pc ls (.int x :: .ref a :: st) σ := r_putI tyX0 tyX0_ok nmX0 (kd := 0) (j := 3) (C := RX0) (T := TX0) (N := 11) rfl (by decide) rfl (by decide) rfl inG0 kfX0_45 rfl (by decide +kernel) hd ha h k
theorem kfX0_48 : Cond.fieldLink RX0 48 (TX0 4).1 (TX0 4).2.1 (TX0 4).2.2.1 ∈ gG := gG_mem (List.mem_of_getElem? (i := 173) (by decide +kernel)) rfl
theorem fX0_48 {Y : gY} {cc : ByteArray} {pc : Nat} {ls : List (Option Value)} {st : List Value} {σ : gM} {β : Type} {o : β} {a : Nat} {E : Int32 → Option β} (hd : decode cc pc = .ok (.getfield 48, 3)) (ha : gIn Y.2.1 a 0 0) (h : gLt (σ (a + 4)) E = some o) (k : ∀ x, E x = some o → AW Y cc RX0 (pc + 3) ls (.int x :: st) σ) : AW Y cc RX0 pc ls (.ref a :: st) σ := r_getI (kd := 0) (j := 4) (C := RX0) (T := TX0) (N := 11) rfl (by decide) rfl (by decide) rfl inG0 kfX0_48 hd ha h k
theorem fX0_48p {Y : gY} {cc : ByteArray} {pc : Nat} {ls : List (Option Value)} {st : List Value} {σ : gM} {β : Type} {o : β} {a : Nat} {x : Int32} {E : gM → Option β} (hd : decode cc pc = .ok (.putfield 48, 3)) (ha : gIn Y.2.1 a 0 0) (h : gLt (upd σ (a + 4) x) E = some o) (k : ∀ σ1, E σ1 = some o → AW Y cc RX0 (pc + 3) ls st σ1) : AW Y cc RX0 pc ls (.int x :: .ref a :: st) σ := r_putI tyX0 tyX0_ok nmX0 (kd := 0) (j := 4) (C := RX0) (T := TX0) (N := 11) rfl (by decide) rfl (by decide) rfl inG0 kfX0_48 rfl (by decide +kernel) hd ha h k
theorem kfX0_51 : Cond.fieldLink RX0 51 (TX0 5).1 (TX0 5).2.1 (TX0 5).2.2.1 ∈ gG := gG_mem (List.mem_of_getElem? (i := 174) (by decide +kernel)) rfl
theorem fX0_51 {Y : gY} {cc : ByteArray} {pc : Nat} {ls : List (Option Value)} {st : List Value} {σ : gM} {β : Type} {o : β} {a : Nat} {E : Int32 → Option β} (hd : decode cc pc = .ok (.getfield 51, 3)) (ha : gIn Y.2.1 a 0 0) (h : gLt (σ (a + 5)) E = some o) (k : ∀ x, E x = some o → AW Y cc RX0 (pc + 3) ls (.int x :: st) σ) : AW Y cc RX0 pc ls (.ref a :: st) σ := r_getI (kd := 0) (j := 5) (C := RX0) (T := TX0) (N := 11) rfl (by decide) rfl (by decide) rfl inG0 kfX0_51 hd ha h k
theorem fX0_51p {Y : gY} {cc : ByteArray} {pc : Nat} {ls : List (Option Value)} {st : List Value} {σ : gM} {β : Type} {o : β} {a : Nat} {x : Int32} {E : gM → Option β} (hd : decode cc pc = .ok (.putfield 51, 3)) (ha : gIn Y.2.1 a 0 0) (h : gLt (upd σ (a + 5) x) E = some o) (k : ∀ σ1, E σ1 = some o → AW Y cc RX0 (pc + 3) ls st σ1) : AW Y cc RX0 pc ls (.int x :: .ref a :: st) σ := r_putI tyX0 tyX0_ok nmX0 (kd := 0) (j := 5) (C := RX0) (T := TX0) (N := 11) rfl (by decide) rfl (by decide) rfl inG0 kfX0_51 rfl (by decide +kernel) hd ha h k
theorem kfX1_9 : Cond.fieldLink RX1 9 (TX1 8).1 (TX1 8).2.1 (TX1 8).2.2.1 ∈ gG := gG_mem (List.mem_of_getElem? (i := 127) (by decide +kernel)) rfl
theorem fX1_9 {Y : gY} {cc : ByteArray} {pc : Nat} {ls : List (Option Value)} {st : List Value} {σ : gM} {a : Nat} (hF : gFull Y.2.1) (hd : decode cc pc = .ok (.getfield 9, 3)) (ha : gIn Y.2.1 a 1 0) (k : gIn Y.2.1 (a + 11) 7 7 → AW Y cc RX1 (pc + 3) ls (.ref (a + 11) :: st) σ) : AW Y cc RX1 pc ls (.ref a :: st) σ := r_getR (kd := 1) (j := 8) (C := RX1) (T := TX1) (N := 11) rfl (by decide) rfl (by decide) rfl inG1 kfX1_9 hd ha (gF1_8 hF ha).1 (k (gF1_8 hF ha).2)
theorem kfX1_15 : Cond.fieldLink RX1 15 (TX1 9).1 (TX1 9).2.1 (TX1 9).2.2.1 ∈ gG := gG_mem (List.mem_of_getElem? (i := 130) (by decide +kernel)) rfl
theorem fX1_15 {Y : gY} {cc : ByteArray} {pc : Nat} {ls : List (Option Value)} {st : List Value} {σ : gM} {a : Nat} (hF : gFull Y.2.1) (hd : decode cc pc = .ok (.getfield 15, 3)) (ha : gIn Y.2.1 a 1 0) (k : gIn Y.2.1 (a + 18) 7 3 → AW Y cc RX1 (pc + 3) ls (.ref (a + 18) :: st) σ) : AW Y cc RX1 pc ls (.ref a :: st) σ := r_getR (kd := 1) (j := 9) (C := RX1) (T := TX1) (N := 11) rfl (by decide) rfl (by decide) rfl inG1 kfX1_15 hd ha (gF1_9 hF ha).1 (k (gF1_9 hF ha).2)
theorem kfX1_18 : Cond.fieldLink RX1 18 (TX1 10).1 (TX1 10).2.1 (TX1 10).2.2.1 ∈ gG := gG_mem (List.mem_of_getElem? (i := 132) (by decide +kernel)) rfl
theorem fX1_18 {Y : gY} {cc : ByteArray} {pc : Nat} {ls : List (Option Value)} {st : List Value} {σ : gM} {a : Nat} (hF : gFull Y.2.1) (hd : decode cc pc = .ok (.getfield 18, 3)) (ha : gIn Y.2.1 a 1 0) (k : gIn Y.2.1 (a + 21) 7 3 → AW Y cc RX1 (pc + 3) ls (.ref (a + 21) :: st) σ) : AW Y cc RX1 pc ls (.ref a :: st) σ := r_getR (kd := 1) (j := 10) (C := RX1) (T := TX1) (N := 11) rfl (by decide) rfl (by decide) rfl inG1 kfX1_18 hd ha (gF1_10 hF ha).1 (k (gF1_10 hF ha).2)
theorem kfX1_21 : Cond.fieldLink RX1 21 (TX1 0).1 (TX1 0).2.1 (TX1 0).2.2.1 ∈ gG := gG_mem (List.mem_of_getElem? (i := 114) (by decide +kernel)) rfl
theorem fX1_21 {Y : gY} {cc : ByteArray} {pc : Nat} {ls : List (Option Value)} {st : List Value} {σ : gM} {β : Type} {o : β} {a : Nat} {E : Int32 → Option β} (hd : decode cc pc = .ok (.getfield 21, 3)) (ha : gIn Y.2.1 a 1 0) (h : gLt (σ (a + 0)) E = some o) (k : ∀ x, E x = some o → AW Y cc RX1 (pc + 3) ls (.int x :: st) σ) : AW Y cc RX1 pc ls (.ref a :: st) σ := r_getI (kd := 1) (j := 0) (C := RX1) (T := TX1) (N := 11) rfl (by decide) rfl (by decide) rfl inG1 kfX1_21 hd ha h k
theorem fX1_21p {Y : gY} {cc : ByteArray} {pc : Nat} {ls : List (Option Value)} {st : List Value} {σ : gM} {β : Type} {o : β} {a : Nat} {x : Int32} {E : gM → Option β} (hd : decode cc pc = .ok (.putfield 21, 3)) (ha : gIn Y.2.1 a 1 0) (h : gLt (upd σ (a + 0) x) E = some o) (k : ∀ σ1, E σ1 = some o → AW Y cc RX1 (pc + 3) ls st σ1) : AW Y cc RX1 pc ls (.int x :: .ref a :: st) σ := r_putI tyX1 tyX1_ok nmX1 (kd := 1) (j := 0) (C := RX1) (T := TX1) (N := 11) rfl (by decide) rfl (by decide) rfl inG1 kfX1_21 rfl (by decide +kernel) hd ha h k
theorem kfX1_25 : Cond.fieldLink RX1 25 (TX1 1).1 (TX1 1).2.1 (TX1 1).2.2.1 ∈ gG := gG_mem (List.mem_of_getElem? (i := 116) (by decide +kernel)) rfl
theorem fX1_25 {Y : gY} {cc : ByteArray} {pc : Nat} {ls : List (Option Value)} {st : List Value} {σ : gM} {β : Type} {o : β} {a : Nat} {E : Int32 → Option β} (hd : decode cc pc = .ok (.getfield 25, 3)) (ha : gIn Y.2.1 a 1 0) (h : gLt (σ (a + 1)) E = some o) (k : ∀ x, E x = some o → AW Y cc RX1 (pc + 3) ls (.int x :: st) σ) : AW Y cc RX1 pc ls (.ref a :: st) σ := r_getI (kd := 1) (j := 1) (C := RX1) (T := TX1) (N := 11) rfl (by decide) rfl (by decide) rfl inG1 kfX1_25 hd ha h k
theorem fX1_25p {Y : gY} {cc : ByteArray} {pc : Nat} {ls : List (Option Value)} {st : List Value} {σ : gM} {β : Type} {o : β} {a : Nat} {x : Int32} {E : gM → Option β} (hd : decode cc pc = .ok (.putfield 25, 3)) (ha : gIn Y.2.1 a 1 0) (h : gLt (upd σ (a + 1) x) E = some o) (k : ∀ σ1, E σ1 = some o → AW Y cc RX1 (pc + 3) ls st σ1) : AW Y cc RX1 pc ls (.int x :: .ref a :: st) σ := r_putI tyX1 tyX1_ok nmX1 (kd := 1) (j := 1) (C := RX1) (T := TX1) (N := 11) rfl (by decide) rfl (by decide) rfl inG1 kfX1_25 rfl (by decide +kernel) hd ha h k
theorem kfX1_28 : Cond.fieldLink RX1 28 (TX1 2).1 (TX1 2).2.1 (TX1 2).2.2.1 ∈ gG := gG_mem (List.mem_of_getElem? (i := 119) (by decide +kernel)) rfl
theorem fX1_28 {Y : gY} {cc : ByteArray} {pc : Nat} {ls : List (Option Value)} {st : List Value} {σ : gM} {β : Type} {o : β} {a : Nat} {E : Int32 → Option β} (hd : decode cc pc = .ok (.getfield 28, 3)) (ha : gIn Y.2.1 a 1 0) (h : gLt (σ (a + 2)) E = some o) (k : ∀ x, E x = some o → AW Y cc RX1 (pc + 3) ls (.int x :: st) σ) : AW Y cc RX1 pc ls (.ref a :: st) σ := r_getI (kd := 1) (j := 2) (C := RX1) (T := TX1) (N := 11) rfl (by decide) rfl (by decide) rfl inG1 kfX1_28 hd ha h k
theorem fX1_28p {Y : gY} {cc : ByteArray} {pc : Nat} {ls : List (Option Value)} {st : List Value} {σ : gM} {β : Type} {o : β} {a : Nat} {x : Int32} {E : gM → Option β} (hd : decode cc pc = .ok (.putfield 28, 3)) (ha : gIn Y.2.1 a 1 0) (h : gLt (upd σ (a + 2) x) E = some o) (k : ∀ σ1, E σ1 = some o → AW Y cc RX1 (pc + 3) ls st σ1) : AW Y cc RX1 pc ls (.int x :: .ref a :: st) σ := r_putI tyX1 tyX1_ok nmX1 (kd := 1) (j := 2) (C := RX1) (T := TX1) (N := 11) rfl (by decide) rfl (by decide) rfl inG1 kfX1_28 rfl (by decide +kernel) hd ha h k
theorem kfX1_31 : Cond.fieldLink RX1 31 (TX1 3).1 (TX1 3).2.1 (TX1 3).2.2.1 ∈ gG := gG_mem (List.mem_of_getElem? (i := 120) (by decide +kernel)) rfl
theorem fX1_31 {Y : gY} {cc : ByteArray} {pc : Nat} {ls : List (Option Value)} {st : List Value} {σ : gM} {β : Type} {o : β} {a : Nat} {E : Int32 → Option β} (hd : decode cc pc = .ok (.getfield 31, 3)) (ha : gIn Y.2.1 a 1 0) (h : gLt (σ (a + 3)) E = some o) (k : ∀ x, E x = some o → AW Y cc RX1 (pc + 3) ls (.int x :: st) σ) : AW Y cc RX1 pc ls (.ref a :: st) σ := r_getI (kd := 1) (j := 3) (C := RX1) (T := TX1) (N := 11) rfl (by decide) rfl (by decide) rfl inG1 kfX1_31 hd ha h k
theorem fX1_31p {Y : gY} {cc : ByteArray} {pc : Nat} {ls : List (Option Value)} {st : List Value} {σ : gM} {β : Type} {o : β} {a : Nat} {x : Int32} {E : gM → Option β} (hd : decode cc pc = .ok (.putfield 31, 3)) (ha : gIn Y.2.1 a 1 0) (h : gLt (upd σ (a + 3) x) E = some o) (k : ∀ σ1, E σ1 = some o → AW Y cc RX1 (pc + 3) ls st σ1) : AW Y cc RX1 pc ls (.int x :: .ref a :: st) σ := r_putI tyX1 tyX1_ok nmX1 (kd := 1) (j := 3) (C := RX1) (T := TX1) (N := 11) rfl (by decide) rfl (by decide) rfl inG1 kfX1_31 rfl (by decide +kernel) hd ha h k
theorem kfX1_34 : Cond.fieldLink RX1 34 (TX1 4).1 (TX1 4).2.1 (TX1 4).2.2.1 ∈ gG := gG_mem (List.mem_of_getElem? (i := 121) (by decide +kernel)) rfl
theorem fX1_34 {Y : gY} {cc : ByteArray} {pc : Nat} {ls : List (Option Value)} {st : List Value} {σ : gM} {β : Type} {o : β} {a : Nat} {E : Int32 → Option β} (hd : decode cc pc = .ok (.getfield 34, 3)) (ha : gIn Y.2.1 a 1 0) (h : gLt (σ (a + 4)) E = some o) (k : ∀ x, E x = some o → AW Y cc RX1 (pc + 3) ls (.int x :: st) σ) : AW Y cc RX1 pc ls (.ref a :: st) σ := r_getI (kd := 1) (j := 4) (C := RX1) (T := TX1) (N := 11) rfl (by decide) rfl (by decide) rfl inG1 kfX1_34 hd ha h k
theorem fX1_34p {Y : gY} {cc : ByteArray} {pc : Nat} {ls : List (Option Value)} {st : List Value} {σ : gM} {β : Type} {o : β} {a : Nat} {x : Int32} {E : gM → Option β} (hd : decode cc pc = .ok (.putfield 34, 3)) (ha : gIn Y.2.1 a 1 0) (h : gLt (upd σ (a + 4) x) E = some o) (k : ∀ σ1, E σ1 = some o → AW Y cc RX1 (pc + 3) ls st σ1) : AW Y cc RX1 pc ls (.int x :: .ref a :: st) σ := r_putI tyX1 tyX1_ok nmX1 (kd := 1) (j := 4) (C := RX1) (T := TX1) (N := 11) rfl (by decide) rfl (by decide) rfl inG1 kfX1_34 rfl (by decide +kernel) hd ha h k
theorem kfX1_37 : Cond.fieldLink RX1 37 (TX1 5).1 (TX1 5).2.1 (TX1 5).2.2.1 ∈ gG := gG_mem (List.mem_of_getElem? (i := 122) (by decide +kernel)) rfl
theorem fX1_37 {Y : gY} {cc : ByteArray} {pc : Nat} {ls : List (Option Value)} {st : List Value} {σ : gM} {β : Type} {o : β} {a : Nat} {E : Int32 → Option β} (hd : decode cc pc = .ok (.getfield 37, 3)) (ha : gIn Y.2.1 a 1 0) (h : gLt (σ (a + 5)) E = some o) (k : ∀ x, E x = some o → AW Y cc RX1 (pc + 3) ls (.int x :: st) σ) : AW Y cc RX1 pc ls (.ref a :: st) σ := r_getI (kd := 1) (j := 5) (C := RX1) (T := TX1) (N := 11) rfl (by decide) rfl (by decide) rfl inG1 kfX1_37 hd ha h k
theorem fX1_37p {Y : gY} {cc : ByteArray} {pc : Nat} {ls : List (Option Value)} {st : List Value} {σ : gM} {β : Type} {o : β} {a : Nat} {x : Int32} {E : gM → Option β} (hd : decode cc pc = .ok (.putfield 37, 3)) (ha : gIn Y.2.1 a 1 0) (h : gLt (upd σ (a + 5) x) E = some o) (k : ∀ σ1, E σ1 = some o → AW Y cc RX1 (pc + 3) ls st σ1) : AW Y cc RX1 pc ls (.int x :: .ref a :: st) σ := r_putI tyX1 tyX1_ok nmX1 (kd := 1) (j := 5) (C := RX1) (T := TX1) (N := 11) rfl (by decide) rfl (by decide) rfl inG1 kfX1_37 rfl (by decide +kernel) hd ha h k
theorem kfX1_40 : Cond.fieldLink RX1 40 (TX1 6).1 (TX1 6).2.1 (TX1 6).2.2.1 ∈ gG := gG_mem (List.mem_of_getElem? (i := 123) (by decide +kernel)) rfl
theorem fX1_40 {Y : gY} {cc : ByteArray} {pc : Nat} {ls : List (Option Value)} {st : List Value} {σ : gM} {β : Type} {o : β} {a : Nat} {E : Int32 → Option β} (hd : decode cc pc = .ok (.getfield 40, 3)) (ha : gIn Y.2.1 a 1 0) (h : gLt (σ (a + 6)) E = some o) (k : ∀ x, E x = some o → AW Y cc RX1 (pc + 3) ls (.int x :: st) σ) : AW Y cc RX1 pc ls (.ref a :: st) σ := r_getI (kd := 1) (j := 6) (C := RX1) (T := TX1) (N := 11) rfl (by decide) rfl (by decide) rfl inG1 kfX1_40 hd ha h k
theorem fX1_40p {Y : gY} {cc : ByteArray} {pc : Nat} {ls : List (Option Value)} {st : List Value} {σ : gM} {β : Type} {o : β} {a : Nat} {x : Int32} {E : gM → Option β} (hd : decode cc pc = .ok (.putfield 40, 3)) (ha : gIn Y.2.1 a 1 0) (h : gLt (upd σ (a + 6) x) E = some o) (k : ∀ σ1, E σ1 = some o → AW Y cc RX1 (pc + 3) ls st σ1) : AW Y cc RX1 pc ls (.int x :: .ref a :: st) σ := r_putI tyX1 tyX1_ok nmX1 (kd := 1) (j := 6) (C := RX1) (T := TX1) (N := 11) rfl (by decide) rfl (by decide) rfl inG1 kfX1_40 rfl (by decide +kernel) hd ha h k
theorem kfX1_43 : Cond.fieldLink RX1 43 (TX1 7).1 (TX1 7).2.1 (TX1 7).2.2.1 ∈ gG := gG_mem (List.mem_of_getElem? (i := 124) (by decide +kernel)) rfl
theorem fX1_43 {Y : gY} {cc : ByteArray} {pc : Nat} {ls : List (Option Value)} {st : List Value} {σ : gM} {β : Type} {o : β} {a : Nat} {E : Int32 → Option β} (hd : decode cc pc = .ok (.getfield 43, 3)) (ha : gIn Y.2.1 a 1 0) (h : gLt (σ (a + 7)) E = some o) (k : ∀ x, E x = some o → AW Y cc RX1 (pc + 3) ls (.int x :: st) σ) : AW Y cc RX1 pc ls (.ref a :: st) σ := r_getI (kd := 1) (j := 7) (C := RX1) (T := TX1) (N := 11) rfl (by decide) rfl (by decide) rfl inG1 kfX1_43 hd ha h k
theorem fX1_43p {Y : gY} {cc : ByteArray} {pc : Nat} {ls : List (Option Value)} {st : List Value} {σ : gM} {β : Type} {o : β} {a : Nat} {x : Int32} {E : gM → Option β} (hd : decode cc pc = .ok (.putfield 43, 3)) (ha : gIn Y.2.1 a 1 0) (h : gLt (upd σ (a + 7) x) E = some o) (k : ∀ σ1, E σ1 = some o → AW Y cc RX1 (pc + 3) ls st σ1) : AW Y cc RX1 pc ls (.int x :: .ref a :: st) σ := r_putI tyX1 tyX1_ok nmX1 (kd := 1) (j := 7) (C := RX1) (T := TX1) (N := 11) rfl (by decide) rfl (by decide) rfl inG1 kfX1_43 rfl (by decide +kernel) hd ha h k
theorem kfX2_11 : Cond.fieldLink RX2 11 (TX2 0).1 (TX2 0).2.1 (TX2 0).2.2.1 ∈ gG := gG_mem (List.mem_of_getElem? (i := 215) (by decide +kernel)) rfl
theorem fX2_11 {Y : gY} {cc : ByteArray} {pc : Nat} {ls : List (Option Value)} {st : List Value} {σ : gM} {a : Nat} (hF : gFull Y.2.1) (hd : decode cc pc = .ok (.getfield 11, 3)) (ha : gIn Y.2.1 a 2 0) (k : gIn Y.2.1 (a + 3) 9 14 → AW Y cc RX2 (pc + 3) ls (.ref (a + 3) :: st) σ) : AW Y cc RX2 pc ls (.ref a :: st) σ := r_getR (kd := 2) (j := 0) (C := RX2) (T := TX2) (N := 3) rfl (by decide) rfl (by decide) rfl inG2 kfX2_11 hd ha (gF2_0 hF ha).1 (k (gF2_0 hF ha).2)
theorem kfX2_18 : Cond.fieldLink RX2 18 (TX2 1).1 (TX2 1).2.1 (TX2 1).2.2.1 ∈ gG := gG_mem (List.mem_of_getElem? (i := 216) (by decide +kernel)) rfl
theorem fX2_18 {Y : gY} {cc : ByteArray} {pc : Nat} {ls : List (Option Value)} {st : List Value} {σ : gM} {β : Type} {o : β} {a : Nat} {E : Int32 → Option β} (hd : decode cc pc = .ok (.getfield 18, 3)) (ha : gIn Y.2.1 a 2 0) (h : gLt (σ (a + 1)) E = some o) (k : ∀ x, E x = some o → AW Y cc RX2 (pc + 3) ls (.int x :: st) σ) : AW Y cc RX2 pc ls (.ref a :: st) σ := r_getI (kd := 2) (j := 1) (C := RX2) (T := TX2) (N := 3) rfl (by decide) rfl (by decide) rfl inG2 kfX2_18 hd ha h k
theorem fX2_18p {Y : gY} {cc : ByteArray} {pc : Nat} {ls : List (Option Value)} {st : List Value} {σ : gM} {β : Type} {o : β} {a : Nat} {x : Int32} {E : gM → Option β} (hd : decode cc pc = .ok (.putfield 18, 3)) (ha : gIn Y.2.1 a 2 0) (h : gLt (upd σ (a + 1) x) E = some o) (k : ∀ σ1, E σ1 = some o → AW Y cc RX2 (pc + 3) ls st σ1) : AW Y cc RX2 pc ls (.int x :: .ref a :: st) σ := r_putI tyX2 tyX2_ok nmX2 (kd := 2) (j := 1) (C := RX2) (T := TX2) (N := 3) rfl (by decide) rfl (by decide) rfl inG2 kfX2_18 rfl (by decide +kernel) hd ha h k
theorem kfX2_22 : Cond.fieldLink RX2 22 (TX2 2).1 (TX2 2).2.1 (TX2 2).2.2.1 ∈ gG := gG_mem (List.mem_of_getElem? (i := 218) (by decide +kernel)) rfl
theorem fX2_22 {Y : gY} {cc : ByteArray} {pc : Nat} {ls : List (Option Value)} {st : List Value} {σ : gM} {β : Type} {o : β} {a : Nat} {E : Int32 → Option β} (hd : decode cc pc = .ok (.getfield 22, 3)) (ha : gIn Y.2.1 a 2 0) (h : gLt (σ (a + 2)) E = some o) (k : ∀ x, E x = some o → AW Y cc RX2 (pc + 3) ls (.int x :: st) σ) : AW Y cc RX2 pc ls (.ref a :: st) σ := r_getI (kd := 2) (j := 2) (C := RX2) (T := TX2) (N := 3) rfl (by decide) rfl (by decide) rfl inG2 kfX2_22 hd ha h k
theorem fX2_22p {Y : gY} {cc : ByteArray} {pc : Nat} {ls : List (Option Value)} {st : List Value} {σ : gM} {β : Type} {o : β} {a : Nat} {x : Int32} {E : gM → Option β} (hd : decode cc pc = .ok (.putfield 22, 3)) (ha : gIn Y.2.1 a 2 0) (h : gLt (upd σ (a + 2) x) E = some o) (k : ∀ σ1, E σ1 = some o → AW Y cc RX2 (pc + 3) ls st σ1) : AW Y cc RX2 pc ls (.int x :: .ref a :: st) σ := r_putI tyX2 tyX2_ok nmX2 (kd := 2) (j := 2) (C := RX2) (T := TX2) (N := 3) rfl (by decide) rfl (by decide) rfl inG2 kfX2_22 rfl (by decide +kernel) hd ha h k
theorem kfX4_9 : Cond.fieldLink RX4 9 (TX4 0).1 (TX4 0).2.1 (TX4 0).2.2.1 ∈ gG := gG_mem (List.mem_of_getElem? (i := 92) (by decide +kernel)) rfl
theorem fX4_9 {Y : gY} {cc : ByteArray} {pc : Nat} {ls : List (Option Value)} {st : List Value} {σ : gM} {a : Nat} (hF : gFull Y.2.1) (hd : decode cc pc = .ok (.getfield 9, 3)) (ha : gIn Y.2.1 a 3 0) (k : gIn Y.2.1 (a + 2) 6 120 → AW Y cc RX4 (pc + 3) ls (.ref (a + 2) :: st) σ) : AW Y cc RX4 pc ls (.ref a :: st) σ := r_getR (kd := 3) (j := 0) (C := RX4) (T := TX4) (N := 2) rfl (by decide) rfl (by decide) rfl inG3 kfX4_9 hd ha (gF3_0 hF ha).1 (k (gF3_0 hF ha).2)
theorem kfX4_15 : Cond.fieldLink RX4 15 (TX4 1).1 (TX4 1).2.1 (TX4 1).2.2.1 ∈ gG := gG_mem (List.mem_of_getElem? (i := 93) (by decide +kernel)) rfl
theorem fX4_15 {Y : gY} {cc : ByteArray} {pc : Nat} {ls : List (Option Value)} {st : List Value} {σ : gM} {β : Type} {o : β} {a : Nat} {E : Int32 → Option β} (hd : decode cc pc = .ok (.getfield 15, 3)) (ha : gIn Y.2.1 a 3 0) (h : gLt (σ (a + 1)) E = some o) (k : ∀ x, E x = some o → AW Y cc RX4 (pc + 3) ls (.int x :: st) σ) : AW Y cc RX4 pc ls (.ref a :: st) σ := r_getI (kd := 3) (j := 1) (C := RX4) (T := TX4) (N := 2) rfl (by decide) rfl (by decide) rfl inG3 kfX4_15 hd ha h k
theorem fX4_15p {Y : gY} {cc : ByteArray} {pc : Nat} {ls : List (Option Value)} {st : List Value} {σ : gM} {β : Type} {o : β} {a : Nat} {x : Int32} {E : gM → Option β} (hd : decode cc pc = .ok (.putfield 15, 3)) (ha : gIn Y.2.1 a 3 0) (h : gLt (upd σ (a + 1) x) E = some o) (k : ∀ σ1, E σ1 = some o → AW Y cc RX4 (pc + 3) ls st σ1) : AW Y cc RX4 pc ls (.int x :: .ref a :: st) σ := r_putI tyX4 tyX4_ok nmX4 (kd := 3) (j := 1) (C := RX4) (T := TX4) (N := 2) rfl (by decide) rfl (by decide) rfl inG3 kfX4_15 rfl (by decide +kernel) hd ha h k
theorem kfX5_49 : Cond.fieldLinkNest RX5 49 (TX4 1).1 (TX4 1).2.1 (TX4 1).2.2.1 "LoafRounds" ∈ gN := gN_mem (List.mem_of_getElem? (i := 94) (by decide +kernel)) rfl
theorem fX5_49 {Y : gY} {cc : ByteArray} {pc : Nat} {ls : List (Option Value)} {st : List Value} {σ : gM} {β : Type} {o : β} {a : Nat} {E : Int32 → Option β} (hd : decode cc pc = .ok (.getfield 49, 3)) (ha : gIn Y.2.1 a 3 0) (h : gLt (σ (a + 1)) E = some o) (k : ∀ x, E x = some o → AW Y cc RX5 (pc + 3) ls (.int x :: st) σ) : AW Y cc RX5 pc ls (.ref a :: st) σ := r_getIN (kd := 3) (j := 1) (C := RX4) (T := TX4) (N := 2) rfl (by decide) rfl (by decide) rfl inG3 kfX5_49 hd ha h k
theorem kfX5_91 : Cond.fieldLinkNest RX5 91 (TX0 6).1 (TX0 6).2.1 (TX0 6).2.2.1 "LoafRounds" ∈ gN := gN_mem (List.mem_of_getElem? (i := 176) (by decide +kernel)) rfl
theorem fX5_91 {Y : gY} {cc : ByteArray} {pc : Nat} {ls : List (Option Value)} {st : List Value} {σ : gM} {a : Nat} (hF : gFull Y.2.1) (hd : decode cc pc = .ok (.getfield 91, 3)) (ha : gIn Y.2.1 a 0 0) (k : gIn Y.2.1 (a + 11) 10 10 → AW Y cc RX5 (pc + 3) ls (.ref (a + 11) :: st) σ) : AW Y cc RX5 pc ls (.ref a :: st) σ := r_getRN (kd := 0) (j := 6) (C := RX0) (T := TX0) (N := 11) rfl (by decide) rfl (by decide) rfl inG0 kfX5_91 hd ha (gF0_6 hF ha).1 (k (gF0_6 hF ha).2)
theorem kfX5_95 : Cond.fieldLinkNest RX5 95 (TX0 1).1 (TX0 1).2.1 (TX0 1).2.2.1 "LoafRounds" ∈ gN := gN_mem (List.mem_of_getElem? (i := 170) (by decide +kernel)) rfl
theorem fX5_95 {Y : gY} {cc : ByteArray} {pc : Nat} {ls : List (Option Value)} {st : List Value} {σ : gM} {β : Type} {o : β} {a : Nat} {E : Int32 → Option β} (hd : decode cc pc = .ok (.getfield 95, 3)) (ha : gIn Y.2.1 a 0 0) (h : gLt (σ (a + 1)) E = some o) (k : ∀ x, E x = some o → AW Y cc RX5 (pc + 3) ls (.int x :: st) σ) : AW Y cc RX5 pc ls (.ref a :: st) σ := r_getIN (kd := 0) (j := 1) (C := RX0) (T := TX0) (N := 11) rfl (by decide) rfl (by decide) rfl inG0 kfX5_95 hd ha h k
theorem kfX5_110 : Cond.fieldLinkNest RX5 110 (TX1 8).1 (TX1 8).2.1 (TX1 8).2.2.1 "LoafRounds" ∈ gN := gN_mem (List.mem_of_getElem? (i := 128) (by decide +kernel)) rfl
theorem fX5_110 {Y : gY} {cc : ByteArray} {pc : Nat} {ls : List (Option Value)} {st : List Value} {σ : gM} {a : Nat} (hF : gFull Y.2.1) (hd : decode cc pc = .ok (.getfield 110, 3)) (ha : gIn Y.2.1 a 1 0) (k : gIn Y.2.1 (a + 11) 7 7 → AW Y cc RX5 (pc + 3) ls (.ref (a + 11) :: st) σ) : AW Y cc RX5 pc ls (.ref a :: st) σ := r_getRN (kd := 1) (j := 8) (C := RX1) (T := TX1) (N := 11) rfl (by decide) rfl (by decide) rfl inG1 kfX5_110 hd ha (gF1_8 hF ha).1 (k (gF1_8 hF ha).2)
theorem kfX5_114 : Cond.fieldLinkNest RX5 114 (TX1 7).1 (TX1 7).2.1 (TX1 7).2.2.1 "LoafRounds" ∈ gN := gN_mem (List.mem_of_getElem? (i := 125) (by decide +kernel)) rfl
theorem fX5_114 {Y : gY} {cc : ByteArray} {pc : Nat} {ls : List (Option Value)} {st : List Value} {σ : gM} {β : Type} {o : β} {a : Nat} {E : Int32 → Option β} (hd : decode cc pc = .ok (.getfield 114, 3)) (ha : gIn Y.2.1 a 1 0) (h : gLt (σ (a + 7)) E = some o) (k : ∀ x, E x = some o → AW Y cc RX5 (pc + 3) ls (.int x :: st) σ) : AW Y cc RX5 pc ls (.ref a :: st) σ := r_getIN (kd := 1) (j := 7) (C := RX1) (T := TX1) (N := 11) rfl (by decide) rfl (by decide) rfl inG1 kfX5_114 hd ha h k
theorem kfX5_117 : Cond.fieldLinkNest RX5 117 (TX1 9).1 (TX1 9).2.1 (TX1 9).2.2.1 "LoafRounds" ∈ gN := gN_mem (List.mem_of_getElem? (i := 131) (by decide +kernel)) rfl
theorem fX5_117 {Y : gY} {cc : ByteArray} {pc : Nat} {ls : List (Option Value)} {st : List Value} {σ : gM} {a : Nat} (hF : gFull Y.2.1) (hd : decode cc pc = .ok (.getfield 117, 3)) (ha : gIn Y.2.1 a 1 0) (k : gIn Y.2.1 (a + 18) 7 3 → AW Y cc RX5 (pc + 3) ls (.ref (a + 18) :: st) σ) : AW Y cc RX5 pc ls (.ref a :: st) σ := r_getRN (kd := 1) (j := 9) (C := RX1) (T := TX1) (N := 11) rfl (by decide) rfl (by decide) rfl inG1 kfX5_117 hd ha (gF1_9 hF ha).1 (k (gF1_9 hF ha).2)
theorem kfX5_120 : Cond.fieldLinkNest RX5 120 (TX1 10).1 (TX1 10).2.1 (TX1 10).2.2.1 "LoafRounds" ∈ gN := gN_mem (List.mem_of_getElem? (i := 133) (by decide +kernel)) rfl
theorem fX5_120 {Y : gY} {cc : ByteArray} {pc : Nat} {ls : List (Option Value)} {st : List Value} {σ : gM} {a : Nat} (hF : gFull Y.2.1) (hd : decode cc pc = .ok (.getfield 120, 3)) (ha : gIn Y.2.1 a 1 0) (k : gIn Y.2.1 (a + 21) 7 3 → AW Y cc RX5 (pc + 3) ls (.ref (a + 21) :: st) σ) : AW Y cc RX5 pc ls (.ref a :: st) σ := r_getRN (kd := 1) (j := 10) (C := RX1) (T := TX1) (N := 11) rfl (by decide) rfl (by decide) rfl inG1 kfX5_120 hd ha (gF1_10 hF ha).1 (k (gF1_10 hF ha).2)
theorem kfX5_130 : Cond.fieldLinkNest RX5 130 (TX0 8).1 (TX0 8).2.1 (TX0 8).2.2.1 "LoafRounds" ∈ gN := gN_mem (List.mem_of_getElem? (i := 179) (by decide +kernel)) rfl
theorem fX5_130 {Y : gY} {cc : ByteArray} {pc : Nat} {ls : List (Option Value)} {st : List Value} {σ : gM} {a : Nat} (hF : gFull Y.2.1) (hd : decode cc pc = .ok (.getfield 130, 3)) (ha : gIn Y.2.1 a 0 0) (k : gIn Y.2.1 (a + 49) 7 4 → AW Y cc RX5 (pc + 3) ls (.ref (a + 49) :: st) σ) : AW Y cc RX5 pc ls (.ref a :: st) σ := r_getRN (kd := 0) (j := 8) (C := RX0) (T := TX0) (N := 11) rfl (by decide) rfl (by decide) rfl inG0 kfX5_130 hd ha (gF0_8 hF ha).1 (k (gF0_8 hF ha).2)
theorem kfX5_136 : Cond.fieldLinkNest RX5 136 (TX0 9).1 (TX0 9).2.1 (TX0 9).2.2.1 "LoafRounds" ∈ gN := gN_mem (List.mem_of_getElem? (i := 181) (by decide +kernel)) rfl
theorem fX5_136 {Y : gY} {cc : ByteArray} {pc : Nat} {ls : List (Option Value)} {st : List Value} {σ : gM} {a : Nat} (hF : gFull Y.2.1) (hd : decode cc pc = .ok (.getfield 136, 3)) (ha : gIn Y.2.1 a 0 0) (k : gIn Y.2.1 (a + 53) 7 5 → AW Y cc RX5 (pc + 3) ls (.ref (a + 53) :: st) σ) : AW Y cc RX5 pc ls (.ref a :: st) σ := r_getRN (kd := 0) (j := 9) (C := RX0) (T := TX0) (N := 11) rfl (by decide) rfl (by decide) rfl inG0 kfX5_136 hd ha (gF0_9 hF ha).1 (k (gF0_9 hF ha).2)
theorem kfX5_150 : Cond.fieldLinkNest RX5 150 (TX2 1).1 (TX2 1).2.1 (TX2 1).2.2.1 "LoafRounds" ∈ gN := gN_mem (List.mem_of_getElem? (i := 217) (by decide +kernel)) rfl
theorem fX5_150 {Y : gY} {cc : ByteArray} {pc : Nat} {ls : List (Option Value)} {st : List Value} {σ : gM} {β : Type} {o : β} {a : Nat} {E : Int32 → Option β} (hd : decode cc pc = .ok (.getfield 150, 3)) (ha : gIn Y.2.1 a 2 0) (h : gLt (σ (a + 1)) E = some o) (k : ∀ x, E x = some o → AW Y cc RX5 (pc + 3) ls (.int x :: st) σ) : AW Y cc RX5 pc ls (.ref a :: st) σ := r_getIN (kd := 2) (j := 1) (C := RX2) (T := TX2) (N := 3) rfl (by decide) rfl (by decide) rfl inG2 kfX5_150 hd ha h k
theorem kfX5_167 : Cond.fieldLinkNest RX5 167 (TX1 1).1 (TX1 1).2.1 (TX1 1).2.2.1 "LoafRounds" ∈ gN := gN_mem (List.mem_of_getElem? (i := 117) (by decide +kernel)) rfl
theorem fX5_167 {Y : gY} {cc : ByteArray} {pc : Nat} {ls : List (Option Value)} {st : List Value} {σ : gM} {β : Type} {o : β} {a : Nat} {E : Int32 → Option β} (hd : decode cc pc = .ok (.getfield 167, 3)) (ha : gIn Y.2.1 a 1 0) (h : gLt (σ (a + 1)) E = some o) (k : ∀ x, E x = some o → AW Y cc RX5 (pc + 3) ls (.int x :: st) σ) : AW Y cc RX5 pc ls (.ref a :: st) σ := r_getIN (kd := 1) (j := 1) (C := RX1) (T := TX1) (N := 11) rfl (by decide) rfl (by decide) rfl inG1 kfX5_167 hd ha h k
theorem kfX0_81 : Cond.fieldLinkNest RX0 81 (TX1 0).1 (TX1 0).2.1 (TX1 0).2.2.1 "LoafRounds" ∈ gN := gN_mem (List.mem_of_getElem? (i := 115) (by decide +kernel)) rfl
theorem fX0_81 {Y : gY} {cc : ByteArray} {pc : Nat} {ls : List (Option Value)} {st : List Value} {σ : gM} {β : Type} {o : β} {a : Nat} {E : Int32 → Option β} (hd : decode cc pc = .ok (.getfield 81, 3)) (ha : gIn Y.2.1 a 1 0) (h : gLt (σ (a + 0)) E = some o) (k : ∀ x, E x = some o → AW Y cc RX0 (pc + 3) ls (.int x :: st) σ) : AW Y cc RX0 pc ls (.ref a :: st) σ := r_getIN (kd := 1) (j := 0) (C := RX1) (T := TX1) (N := 11) rfl (by decide) rfl (by decide) rfl inG1 kfX0_81 hd ha h k
theorem kfX0_110 : Cond.fieldLinkNest RX0 110 (TX1 7).1 (TX1 7).2.1 (TX1 7).2.2.1 "LoafRounds" ∈ gN := gN_mem (List.mem_of_getElem? (i := 126) (by decide +kernel)) rfl
theorem fX0_110 {Y : gY} {cc : ByteArray} {pc : Nat} {ls : List (Option Value)} {st : List Value} {σ : gM} {β : Type} {o : β} {a : Nat} {E : Int32 → Option β} (hd : decode cc pc = .ok (.getfield 110, 3)) (ha : gIn Y.2.1 a 1 0) (h : gLt (σ (a + 7)) E = some o) (k : ∀ x, E x = some o → AW Y cc RX0 (pc + 3) ls (.int x :: st) σ) : AW Y cc RX0 pc ls (.ref a :: st) σ := r_getIN (kd := 1) (j := 7) (C := RX1) (T := TX1) (N := 11) rfl (by decide) rfl (by decide) rfl inG1 kfX0_110 hd ha h k
theorem kfX0_204 : Cond.fieldLinkNest RX0 204 (TX1 1).1 (TX1 1).2.1 (TX1 1).2.2.1 "LoafRounds" ∈ gN := gN_mem (List.mem_of_getElem? (i := 118) (by decide +kernel)) rfl
theorem fX0_204 {Y : gY} {cc : ByteArray} {pc : Nat} {ls : List (Option Value)} {st : List Value} {σ : gM} {β : Type} {o : β} {a : Nat} {E : Int32 → Option β} (hd : decode cc pc = .ok (.getfield 204, 3)) (ha : gIn Y.2.1 a 1 0) (h : gLt (σ (a + 1)) E = some o) (k : ∀ x, E x = some o → AW Y cc RX0 (pc + 3) ls (.int x :: st) σ) : AW Y cc RX0 pc ls (.ref a :: st) σ := r_getIN (kd := 1) (j := 1) (C := RX1) (T := TX1) (N := 11) rfl (by decide) rfl (by decide) rfl inG1 kfX0_204 hd ha h k
theorem kfX0_214 : Cond.fieldLinkNest RX0 214 (TX1 8).1 (TX1 8).2.1 (TX1 8).2.2.1 "LoafRounds" ∈ gN := gN_mem (List.mem_of_getElem? (i := 129) (by decide +kernel)) rfl
theorem fX0_214 {Y : gY} {cc : ByteArray} {pc : Nat} {ls : List (Option Value)} {st : List Value} {σ : gM} {a : Nat} (hF : gFull Y.2.1) (hd : decode cc pc = .ok (.getfield 214, 3)) (ha : gIn Y.2.1 a 1 0) (k : gIn Y.2.1 (a + 11) 7 7 → AW Y cc RX0 (pc + 3) ls (.ref (a + 11) :: st) σ) : AW Y cc RX0 pc ls (.ref a :: st) σ := r_getRN (kd := 1) (j := 8) (C := RX1) (T := TX1) (N := 11) rfl (by decide) rfl (by decide) rfl inG1 kfX0_214 hd ha (gF1_8 hF ha).1 (k (gF1_8 hF ha).2)
theorem cd_X5_init : Cond.code yX5_init cX5_init 2 none ∈ gG := gG_mem (List.mem_of_getElem? (i := 82) (by decide +kernel)) rfl
theorem nm_X5_init : gNm yX5_init 0 := by unfold gNm; decide +kernel
theorem cd_X4_init : Cond.code yX4_init cX4_init 1 none ∈ gG := gG_mem (List.mem_of_getElem? (i := 90) (by decide +kernel)) rfl
theorem nm_X4_init : gNm yX4_init 0 := by unfold gNm; decide +kernel
theorem cd_X0_init : Cond.code yX0_init cX0_init 2 none ∈ gG := gG_mem (List.mem_of_getElem? (i := 105) (by decide +kernel)) rfl
theorem nm_X0_init : gNm yX0_init 0 := by unfold gNm; decide +kernel
theorem cd_X1_init : Cond.code yX1_init cX1_init 1 none ∈ gG := gG_mem (List.mem_of_getElem? (i := 112) (by decide +kernel)) rfl
theorem nm_X1_init : gNm yX1_init 0 := by unfold gNm; decide +kernel
theorem cd_X0_makeNew : Cond.code yX0_makeNew cX0_makeNew 2 none ∈ gG := gG_mem (List.mem_of_getElem? (i := 162) (by decide +kernel)) rfl
theorem nm_X0_makeNew : gNm yX0_makeNew 0 := by unfold gNm; decide +kernel
theorem cd_X2_init : Cond.code yX2_init cX2_init 2 none ∈ gG := gG_mem (List.mem_of_getElem? (i := 210) (by decide +kernel)) rfl
theorem nm_X2_init : gNm yX2_init 0 := by unfold gNm; decide +kernel
set_option maxRecDepth 1000000 in
theorem cd_L_call : Cond.code yL_call cL_call 5 (some .int) ∈ gG := gG_mem (List.mem_of_getElem? (i := 247) rfl) rfl
theorem nm_L_call : gNm yL_call 5 := by unfold gNm; decide +kernel
theorem cd_X5_append : Cond.code yX5_append cX5_append 2 (some .int) ∈ gG := gG_mem (List.mem_of_getElem? (i := 256) (by decide +kernel)) rfl
theorem nm_X5_append : gNm yX5_append 1 := by unfold gNm; decide +kernel
theorem cd_X5_isWithin : Cond.code yX5_isWithin cX5_isWithin 3 (some .boolean) ∈ gG := gG_mem (List.mem_of_getElem? (i := 259) (by decide +kernel)) rfl
theorem nm_X5_isWithin : gNm yX5_isWithin 3 := by unfold gNm; decide +kernel
theorem cd_X5_demandArgument : Cond.code yX5_demandArgument cX5_demandArgument 1 none ∈ gG := gG_mem (List.mem_of_getElem? (i := 262) (by decide +kernel)) rfl
theorem nm_X5_demandArgument : gNm yX5_demandArgument 1 := by unfold gNm; decide +kernel
theorem cd_X5_demandState : Cond.code yX5_demandState cX5_demandState 1 none ∈ gG := gG_mem (List.mem_of_getElem? (i := 333) (by decide +kernel)) rfl
theorem nm_X5_demandState : gNm yX5_demandState 1 := by unfold gNm; decide +kernel
theorem cd_X4_add : Cond.code yX4_add cX4_add 2 (some .int) ∈ gG := gG_mem (List.mem_of_getElem? (i := 353) (by decide +kernel)) rfl
theorem nm_X4_add : gNm yX4_add 1 := by unfold gNm; decide +kernel
theorem cd_X5_load : Cond.code yX5_load cX5_load 3 (some .int) ∈ gG := gG_mem (List.mem_of_getElem? (i := 362) (by decide +kernel)) rfl
theorem nm_X5_load : gNm yX5_load 0 := by unfold gNm; decide +kernel
theorem cd_X4_firstError : Cond.code yX4_firstError cX4_firstError 4 (some .int) ∈ gG := gG_mem (List.mem_of_getElem? (i := 366) (by decide +kernel)) rfl
theorem nm_X4_firstError : gNm yX4_firstError 0 := by unfold gNm; decide +kernel
theorem cd_X4_signAt : Cond.code yX4_signAt cX4_signAt 2 (some .char) ∈ gG := gG_mem (List.mem_of_getElem? (i := 370) (by decide +kernel)) rfl
theorem nm_X4_signAt : gNm yX4_signAt 1 := by unfold gNm; decide +kernel
theorem cd_X4_formOf : Cond.code yX4_formOf cX4_formOf 1 (some (.object "java/lang/String")) ∈ gG := gG_mem (List.mem_of_getElem? (i := 373) (by decide +kernel)) rfl
theorem nm_X4_formOf : gNm yX4_formOf 1 := by unfold gNm; decide +kernel
theorem cd_X4_isAllowed : Cond.code yX4_isAllowed cX4_isAllowed 5 (some .boolean) ∈ gG := gG_mem (List.mem_of_getElem? (i := 437) (by decide +kernel)) rfl
theorem nm_X4_isAllowed : gNm yX4_isAllowed 2 := by unfold gNm; decide +kernel
theorem cd_X4_formLength : Cond.code yX4_formLength cX4_formLength 2 (some .int) ∈ gG := gG_mem (List.mem_of_getElem? (i := 441) (by decide +kernel)) rfl
theorem nm_X4_formLength : gNm yX4_formLength 1 := by unfold gNm; decide +kernel
theorem cd_X2_forgetAll : Cond.code yX2_forgetAll cX2_forgetAll 1 none ∈ gG := gG_mem (List.mem_of_getElem? (i := 446) (by decide +kernel)) rfl
theorem nm_X2_forgetAll : gNm yX2_forgetAll 0 := by unfold gNm; decide +kernel
theorem cd_X4_doCommand : Cond.code yX4_doCommand cX4_doCommand 4 (some .int) ∈ gG := gG_mem (List.mem_of_getElem? (i := 450) (by decide +kernel)) rfl
theorem nm_X4_doCommand : gNm yX4_doCommand 2 := by unfold gNm; decide +kernel
theorem cd_X4_numberAt : Cond.code yX4_numberAt cX4_numberAt 5 (some .int) ∈ gG := gG_mem (List.mem_of_getElem? (i := 454) (by decide +kernel)) rfl
theorem nm_X4_numberAt : gNm yX4_numberAt 2 := by unfold gNm; decide +kernel
theorem cd_X0_perform : Cond.code yX0_perform cX0_perform 5 (some .int) ∈ gG := gG_mem (List.mem_of_getElem? (i := 458) (by decide +kernel)) rfl
theorem nm_X0_perform : gNm yX0_perform 4 := by unfold gNm; decide +kernel
set_option maxRecDepth 1000000 in
theorem cd_X0_refusalOf : Cond.code yX0_refusalOf cX0_refusalOf 5 (some (.object "LoafRounds$Refusal")) ∈ gG := gG_mem (List.mem_of_getElem? (i := 462) rfl) rfl
theorem nm_X0_refusalOf : gNm yX0_refusalOf 4 := by unfold gNm; decide +kernel
theorem cd_X5_isStreet : Cond.code yX5_isStreet cX5_isStreet 1 (some .boolean) ∈ gG := gG_mem (List.mem_of_getElem? (i := 465) (by decide +kernel)) rfl
theorem nm_X5_isStreet : gNm yX5_isStreet 1 := by unfold gNm; decide +kernel
theorem cd_X0_firstRefusal : Cond.code yX0_firstRefusal cX0_firstRefusal 3 (some (.object "LoafRounds$Refusal")) ∈ gG := gG_mem (List.mem_of_getElem? (i := 470) (by decide +kernel)) rfl
theorem nm_X0_firstRefusal : gNm yX0_firstRefusal 3 := by unfold gNm; decide +kernel
theorem cd_X0_hasCustomer : Cond.code yX0_hasCustomer cX0_hasCustomer 2 (some .boolean) ∈ gG := gG_mem (List.mem_of_getElem? (i := 482) (by decide +kernel)) rfl
theorem nm_X0_hasCustomer : gNm yX0_hasCustomer 1 := by unfold gNm; decide +kernel
theorem cd_X5_isWeekday : Cond.code yX5_isWeekday cX5_isWeekday 1 (some .boolean) ∈ gG := gG_mem (List.mem_of_getElem? (i := 485) (by decide +kernel)) rfl
theorem nm_X5_isWeekday : gNm yX5_isWeekday 1 := by unfold gNm; decide +kernel
theorem cd_X5_isSetting : Cond.code yX5_isSetting cX5_isSetting 1 (some .boolean) ∈ gG := gG_mem (List.mem_of_getElem? (i := 488) (by decide +kernel)) rfl
theorem nm_X5_isSetting : gNm yX5_isSetting 1 := by unfold gNm; decide +kernel
theorem cd_X0_addCustomer : Cond.code yX0_addCustomer cX0_addCustomer 3 (some .int) ∈ gG := gG_mem (List.mem_of_getElem? (i := 496) (by decide +kernel)) rfl
theorem nm_X0_addCustomer : gNm yX0_addCustomer 2 := by unfold gNm; decide +kernel
theorem cd_X1_start : Cond.code yX1_start cX1_start 5 none ∈ gG := gG_mem (List.mem_of_getElem? (i := 500) (by decide +kernel)) rfl
theorem nm_X1_start : gNm yX1_start 2 := by unfold gNm; decide +kernel
theorem cd_X1_putLoaves : Cond.code yX1_putLoaves cX1_putLoaves 4 (some .int) ∈ gG := gG_mem (List.mem_of_getElem? (i := 504) (by decide +kernel)) rfl
theorem nm_X1_putLoaves : gNm yX1_putLoaves 2 := by unfold gNm; decide +kernel
theorem cd_X1_addHoliday : Cond.code yX1_addHoliday cX1_addHoliday 3 (some .int) ∈ gG := gG_mem (List.mem_of_getElem? (i := 508) (by decide +kernel)) rfl
theorem nm_X1_addHoliday : gNm yX1_addHoliday 2 := by unfold gNm; decide +kernel
theorem cd_X1_dropHoliday : Cond.code yX1_dropHoliday cX1_dropHoliday 3 (some .int) ∈ gG := gG_mem (List.mem_of_getElem? (i := 512) (by decide +kernel)) rfl
theorem nm_X1_dropHoliday : gNm yX1_dropHoliday 1 := by unfold gNm; decide +kernel
theorem cd_X0_closeStreet : Cond.code yX0_closeStreet cX0_closeStreet 6 (some .int) ∈ gG := gG_mem (List.mem_of_getElem? (i := 516) (by decide +kernel)) rfl
theorem nm_X0_closeStreet : gNm yX0_closeStreet 3 := by unfold gNm; decide +kernel
theorem cd_X0_isShut : Cond.code yX0_isShut cX0_isShut 3 (some .boolean) ∈ gG := gG_mem (List.mem_of_getElem? (i := 520) (by decide +kernel)) rfl
theorem nm_X0_isShut : gNm yX0_isShut 2 := by unfold gNm; decide +kernel
theorem cd_X0_swapStreets : Cond.code yX0_swapStreets cX0_swapStreets 5 (some .int) ∈ gG := gG_mem (List.mem_of_getElem? (i := 524) (by decide +kernel)) rfl
theorem nm_X0_swapStreets : gNm yX0_swapStreets 2 := by unfold gNm; decide +kernel
theorem cd_X0_placeOf : Cond.code yX0_placeOf cX0_placeOf 4 (some .int) ∈ gG := gG_mem (List.mem_of_getElem? (i := 528) (by decide +kernel)) rfl
theorem nm_X0_placeOf : gNm yX0_placeOf 1 := by unfold gNm; decide +kernel
theorem cd_X0_changeSetting : Cond.code yX0_changeSetting cX0_changeSetting 4 (some .int) ∈ gG := gG_mem (List.mem_of_getElem? (i := 532) (by decide +kernel)) rfl
theorem nm_X0_changeSetting : gNm yX0_changeSetting 2 := by unfold gNm; decide +kernel
theorem cd_X0_deliver : Cond.code yX0_deliver cX0_deliver 6 (some .int) ∈ gG := gG_mem (List.mem_of_getElem? (i := 536) (by decide +kernel)) rfl
theorem nm_X0_deliver : gNm yX0_deliver 1 := by unfold gNm; decide +kernel
theorem cd_X0_planVisits : Cond.code yX0_planVisits cX0_planVisits 4 none ∈ gG := gG_mem (List.mem_of_getElem? (i := 540) (by decide +kernel)) rfl
theorem nm_X0_planVisits : gNm yX0_planVisits 0 := by unfold gNm; decide +kernel
theorem cd_X0_dueToAll : Cond.code yX0_dueToAll cX0_dueToAll 3 (some .int) ∈ gG := gG_mem (List.mem_of_getElem? (i := 544) (by decide +kernel)) rfl
theorem nm_X0_dueToAll : gNm yX0_dueToAll 0 := by unfold gNm; decide +kernel
theorem cd_X1_dueOn : Cond.code yX1_dueOn cX1_dueOn 2 (some .int) ∈ gG := gG_mem (List.mem_of_getElem? (i := 548) (by decide +kernel)) rfl
theorem nm_X1_dueOn : gNm yX1_dueOn 1 := by unfold gNm; decide +kernel
theorem cd_X1_isInFirstHolidays : Cond.code yX1_isInFirstHolidays cX1_isInFirstHolidays 4 (some .boolean) ∈ gG := gG_mem (List.mem_of_getElem? (i := 552) (by decide +kernel)) rfl
theorem nm_X1_isInFirstHolidays : gNm yX1_isInFirstHolidays 2 := by unfold gNm; decide +kernel
theorem cd_X5_weekdayOf : Cond.code yX5_weekdayOf cX5_weekdayOf 1 (some .int) ∈ gG := gG_mem (List.mem_of_getElem? (i := 555) (by decide +kernel)) rfl
theorem nm_X5_weekdayOf : gNm yX5_weekdayOf 1 := by unfold gNm; decide +kernel
theorem cd_X0_loavesFor : Cond.code yX0_loavesFor cX0_loavesFor 2 (some .int) ∈ gG := gG_mem (List.mem_of_getElem? (i := 559) (by decide +kernel)) rfl
theorem nm_X0_loavesFor : gNm yX0_loavesFor 1 := by unfold gNm; decide +kernel
theorem cd_X0_handOut : Cond.code yX0_handOut cX0_handOut 7 (some .int) ∈ gG := gG_mem (List.mem_of_getElem? (i := 566) (by decide +kernel)) rfl
theorem nm_X0_handOut : gNm yX0_handOut 1 := by unfold gNm; decide +kernel
theorem cd_X0_isReached : Cond.code yX0_isReached cX0_isReached 2 (some .boolean) ∈ gG := gG_mem (List.mem_of_getElem? (i := 570) (by decide +kernel)) rfl
theorem nm_X0_isReached : gNm yX0_isReached 1 := by unfold gNm; decide +kernel
theorem cd_X1_receive : Cond.code yX1_receive cX1_receive 3 none ∈ gG := gG_mem (List.mem_of_getElem? (i := 575) (by decide +kernel)) rfl
theorem nm_X1_receive : gNm yX1_receive 2 := by unfold gNm; decide +kernel
theorem cd_X0_makeGood : Cond.code yX0_makeGood cX0_makeGood 6 (some .int) ∈ gG := gG_mem (List.mem_of_getElem? (i := 579) (by decide +kernel)) rfl
theorem nm_X0_makeGood : gNm yX0_makeGood 1 := by unfold gNm; decide +kernel
theorem cd_X1_isAwayOn : Cond.code yX1_isAwayOn cX1_isAwayOn 2 (some .boolean) ∈ gG := gG_mem (List.mem_of_getElem? (i := 583) (by decide +kernel)) rfl
theorem nm_X1_isAwayOn : gNm yX1_isAwayOn 1 := by unfold gNm; decide +kernel
theorem cd_X1_receiveForCredit : Cond.code yX1_receiveForCredit cX1_receiveForCredit 2 none ∈ gG := gG_mem (List.mem_of_getElem? (i := 587) (by decide +kernel)) rfl
theorem nm_X1_receiveForCredit : gNm yX1_receiveForCredit 1 := by unfold gNm; decide +kernel
theorem cd_X0_payBack : Cond.code yX0_payBack cX0_payBack 2 none ∈ gG := gG_mem (List.mem_of_getElem? (i := 591) (by decide +kernel)) rfl
theorem nm_X0_payBack : gNm yX0_payBack 0 := by unfold gNm; decide +kernel
theorem cd_X1_cutCredit : Cond.code yX1_cutCredit cX1_cutCredit 3 (some .int) ∈ gG := gG_mem (List.mem_of_getElem? (i := 595) (by decide +kernel)) rfl
theorem nm_X1_cutCredit : gNm yX1_cutCredit 1 := by unfold gNm; decide +kernel
theorem cd_X5_about : Cond.code yX5_about cX5_about 2 (some .int) ∈ gG := gG_mem (List.mem_of_getElem? (i := 606) (by decide +kernel)) rfl
theorem nm_X5_about : gNm yX5_about 1 := by unfold gNm; decide +kernel
theorem cd_X0_numberOf : Cond.code yX0_numberOf cX0_numberOf 2 (some .int) ∈ gG := gG_mem (List.mem_of_getElem? (i := 610) (by decide +kernel)) rfl
theorem nm_X0_numberOf : gNm yX0_numberOf 1 := by unfold gNm; decide +kernel
theorem cd_X0_sumOf : Cond.code yX0_sumOf cX0_sumOf 4 (some .int) ∈ gG := gG_mem (List.mem_of_getElem? (i := 614) (by decide +kernel)) rfl
theorem nm_X0_sumOf : gNm yX0_sumOf 1 := by unfold gNm; decide +kernel
theorem cd_X1_numberOf : Cond.code yX1_numberOf cX1_numberOf 2 (some .int) ∈ gG := gG_mem (List.mem_of_getElem? (i := 618) (by decide +kernel)) rfl
theorem nm_X1_numberOf : gNm yX1_numberOf 1 := by unfold gNm; decide +kernel
theorem cd_X1_loavesAWeek : Cond.code yX1_loavesAWeek cX1_loavesAWeek 3 (some .int) ∈ gG := gG_mem (List.mem_of_getElem? (i := 622) (by decide +kernel)) rfl
theorem nm_X1_loavesAWeek : gNm yX1_loavesAWeek 0 := by unfold gNm; decide +kernel
theorem cd_X5_customerOf : Cond.code yX5_customerOf cX5_customerOf 3 (some .int) ∈ gG := gG_mem (List.mem_of_getElem? (i := 630) (by decide +kernel)) rfl
theorem nm_X5_customerOf : gNm yX5_customerOf 2 := by unfold gNm; decide +kernel
theorem cd_X5_demandPlace : Cond.code yX5_demandPlace cX5_demandPlace 1 none ∈ gG := gG_mem (List.mem_of_getElem? (i := 634) (by decide +kernel)) rfl
theorem nm_X5_demandPlace : gNm yX5_demandPlace 1 := by unfold gNm; decide +kernel
theorem cd_X1_nextDueDay : Cond.code yX1_nextDueDay cX1_nextDueDay 3 (some .int) ∈ gG := gG_mem (List.mem_of_getElem? (i := 655) (by decide +kernel)) rfl
theorem nm_X1_nextDueDay : gNm yX1_nextDueDay 1 := by unfold gNm; decide +kernel
theorem cd_X5_ordered : Cond.code yX5_ordered cX5_ordered 3 (some .int) ∈ gG := gG_mem (List.mem_of_getElem? (i := 665) (by decide +kernel)) rfl
theorem nm_X5_ordered : gNm yX5_ordered 2 := by unfold gNm; decide +kernel
theorem cd_X5_away : Cond.code yX5_away cX5_away 5 (some .int) ∈ gG := gG_mem (List.mem_of_getElem? (i := 673) (by decide +kernel)) rfl
theorem nm_X5_away : gNm yX5_away 3 := by unfold gNm; decide +kernel
theorem cd_X5_isClosed : Cond.code yX5_isClosed cX5_isClosed 3 (some .int) ∈ gG := gG_mem (List.mem_of_getElem? (i := 680) (by decide +kernel)) rfl
theorem nm_X5_isClosed : gNm yX5_isClosed 2 := by unfold gNm; decide +kernel
theorem cd_X5_round : Cond.code yX5_round cX5_round 2 (some .int) ∈ gG := gG_mem (List.mem_of_getElem? (i := 689) (by decide +kernel)) rfl
theorem nm_X5_round : gNm yX5_round 1 := by unfold gNm; decide +kernel
theorem cd_X5_setting : Cond.code yX5_setting cX5_setting 2 (some .int) ∈ gG := gG_mem (List.mem_of_getElem? (i := 696) (by decide +kernel)) rfl
theorem nm_X5_setting : gNm yX5_setting 1 := by unfold gNm; decide +kernel
theorem cd_X5_customer : Cond.code yX5_customer cX5_customer 3 (some .int) ∈ gG := gG_mem (List.mem_of_getElem? (i := 704) (by decide +kernel)) rfl
theorem nm_X5_customer : gNm yX5_customer 2 := by unfold gNm; decide +kernel
theorem cd_X5_act : Cond.code yX5_act cX5_act 6 (some .int) ∈ gG := gG_mem (List.mem_of_getElem? (i := 708) (by decide +kernel)) rfl
theorem nm_X5_act : gNm yX5_act 4 := by unfold gNm; decide +kernel
theorem cd_X2_keep : Cond.code yX2_keep cX2_keep 2 none ∈ gG := gG_mem (List.mem_of_getElem? (i := 716) (by decide +kernel)) rfl
theorem nm_X2_keep : gNm yX2_keep 1 := by unfold gNm; decide +kernel
theorem cd_X0_copyFrom : Cond.code yX0_copyFrom cX0_copyFrom 3 none ∈ gG := gG_mem (List.mem_of_getElem? (i := 720) (by decide +kernel)) rfl
theorem nm_X0_copyFrom : gNm yX0_copyFrom 1 := by unfold gNm; decide +kernel
theorem cd_X1_copyFrom : Cond.code yX1_copyFrom cX1_copyFrom 2 none ∈ gG := gG_mem (List.mem_of_getElem? (i := 724) (by decide +kernel)) rfl
theorem nm_X1_copyFrom : gNm yX1_copyFrom 1 := by unfold gNm; decide +kernel
theorem cd_X5_change : Cond.code yX5_change cX5_change 4 (some .int) ∈ gG := gG_mem (List.mem_of_getElem? (i := 734) (by decide +kernel)) rfl
theorem nm_X5_change : gNm yX5_change 3 := by unfold gNm; decide +kernel
theorem cd_X5_holiday : Cond.code yX5_holiday cX5_holiday 4 (some .int) ∈ gG := gG_mem (List.mem_of_getElem? (i := 741) (by decide +kernel)) rfl
theorem nm_X5_holiday : gNm yX5_holiday 3 := by unfold gNm; decide +kernel
theorem cd_X5_drop : Cond.code yX5_drop cX5_drop 3 (some .int) ∈ gG := gG_mem (List.mem_of_getElem? (i := 748) (by decide +kernel)) rfl
theorem nm_X5_drop : gNm yX5_drop 2 := by unfold gNm; decide +kernel
theorem cd_X5_swap : Cond.code yX5_swap cX5_swap 3 (some .int) ∈ gG := gG_mem (List.mem_of_getElem? (i := 755) (by decide +kernel)) rfl
theorem nm_X5_swap : gNm yX5_swap 2 := by unfold gNm; decide +kernel
theorem cd_X5_set : Cond.code yX5_set cX5_set 3 (some .int) ∈ gG := gG_mem (List.mem_of_getElem? (i := 762) (by decide +kernel)) rfl
theorem nm_X5_set : gNm yX5_set 2 := by unfold gNm; decide +kernel
theorem cd_X5_days : Cond.code yX5_days cX5_days 2 (some .int) ∈ gG := gG_mem (List.mem_of_getElem? (i := 769) (by decide +kernel)) rfl
theorem nm_X5_days : gNm yX5_days 1 := by unfold gNm; decide +kernel
theorem cd_X5_undo : Cond.code yX5_undo cX5_undo 1 (some .int) ∈ gG := gG_mem (List.mem_of_getElem? (i := 776) (by decide +kernel)) rfl
theorem nm_X5_undo : gNm yX5_undo 0 := by unfold gNm; decide +kernel
theorem cd_X2_takeBack : Cond.code yX2_takeBack cX2_takeBack 2 (some .int) ∈ gG := gG_mem (List.mem_of_getElem? (i := 780) (by decide +kernel)) rfl
theorem nm_X2_takeBack : gNm yX2_takeBack 1 := by unfold gNm; decide +kernel
theorem cd_X5_why : Cond.code yX5_why cX5_why 2 (some .int) ∈ gG := gG_mem (List.mem_of_getElem? (i := 787) (by decide +kernel)) rfl
theorem nm_X5_why : gNm yX5_why 1 := by unfold gNm; decide +kernel
theorem cd_X0_reasonFor : Cond.code yX0_reasonFor cX0_reasonFor 4 (some .int) ∈ gG := gG_mem (List.mem_of_getElem? (i := 791) (by decide +kernel)) rfl
theorem nm_X0_reasonFor : gNm yX0_reasonFor 1 := by unfold gNm; decide +kernel
theorem cd_X0_leftBefore : Cond.code yX0_leftBefore cX0_leftBefore 5 (some .int) ∈ gG := gG_mem (List.mem_of_getElem? (i := 795) (by decide +kernel)) rfl
theorem nm_X0_leftBefore : gNm yX0_leftBefore 1 := by unfold gNm; decide +kernel
theorem cd_X5_creditIn : Cond.code yX5_creditIn cX5_creditIn 3 (some .int) ∈ gG := gG_mem (List.mem_of_getElem? (i := 802) (by decide +kernel)) rfl
theorem nm_X5_creditIn : gNm yX5_creditIn 2 := by unfold gNm; decide +kernel
theorem cd_X5_clearIn : Cond.code yX5_clearIn cX5_clearIn 3 (some .int) ∈ gG := gG_mem (List.mem_of_getElem? (i := 811) (by decide +kernel)) rfl
theorem nm_X5_clearIn : gNm yX5_clearIn 1 := by unfold gNm; decide +kernel
theorem cd_X5_leastOven : Cond.code yX5_leastOven cX5_leastOven 4 (some .int) ∈ gG := gG_mem (List.mem_of_getElem? (i := 818) (by decide +kernel)) rfl
theorem nm_X5_leastOven : gNm yX5_leastOven 1 := by unfold gNm; decide +kernel
theorem cd_X0_dueInOpenStreets : Cond.code yX0_dueInOpenStreets cX0_dueInOpenStreets 4 (some .int) ∈ gG := gG_mem (List.mem_of_getElem? (i := 822) (by decide +kernel)) rfl
theorem nm_X0_dueInOpenStreets : gNm yX0_dueInOpenStreets 1 := by unfold gNm; decide +kernel
theorem cd_X5_bestRound : Cond.code yX5_bestRound cX5_bestRound 6 (some .int) ∈ gG := gG_mem (List.mem_of_getElem? (i := 830) (by decide +kernel)) rfl
theorem nm_X5_bestRound : gNm yX5_bestRound 1 := by unfold gNm; decide +kernel
theorem cd_X5_tellEachStreet : Cond.code yX5_tellEachStreet cX5_tellEachStreet 4 (some .boolean) ∈ gG := gG_mem (List.mem_of_getElem? (i := 833) (by decide +kernel)) rfl
theorem nm_X5_tellEachStreet : gNm yX5_tellEachStreet 1 := by unfold gNm; decide +kernel
theorem cd_X0_takeOrder : Cond.code yX0_takeOrder cX0_takeOrder 4 none ∈ gG := gG_mem (List.mem_of_getElem? (i := 837) (by decide +kernel)) rfl
theorem nm_X0_takeOrder : gNm yX0_takeOrder 1 := by unfold gNm; decide +kernel
theorem cd_X0_orderAsNumber : Cond.code yX0_orderAsNumber cX0_orderAsNumber 3 (some .int) ∈ gG := gG_mem (List.mem_of_getElem? (i := 842) (by decide +kernel)) rfl
theorem nm_X0_orderAsNumber : gNm yX0_orderAsNumber 0 := by unfold gNm; decide +kernel
theorem cd_X5_save : Cond.code yX5_save cX5_save 2 (some .int) ∈ gG := gG_mem (List.mem_of_getElem? (i := 849) (by decide +kernel)) rfl
theorem nm_X5_save : gNm yX5_save 1 := by unfold gNm; decide +kernel
theorem cd_X5_isSlot : Cond.code yX5_isSlot cX5_isSlot 1 (some .boolean) ∈ gG := gG_mem (List.mem_of_getElem? (i := 852) (by decide +kernel)) rfl
theorem nm_X5_isSlot : gNm yX5_isSlot 1 := by unfold gNm; decide +kernel
theorem cd_X5_restore : Cond.code yX5_restore cX5_restore 2 (some .int) ∈ gG := gG_mem (List.mem_of_getElem? (i := 859) (by decide +kernel)) rfl
theorem nm_X5_restore : gNm yX5_restore 1 := by unfold gNm; decide +kernel
theorem cd_L_cell : Cond.code yL_cell cL_cell 2 (some .int) ∈ gG := gG_mem (List.mem_of_getElem? (i := 862) (by decide +kernel)) rfl
theorem nm_L_cell : gNm yL_cell 2 := by unfold gNm; decide +kernel
set_option maxRecDepth 1000000 in
theorem cd_L_refuses : Cond.code yL_refuses cL_refuses 8 (some .boolean) ∈ gG := gG_mem (List.mem_of_getElem? (i := 867) rfl) rfl
theorem nm_L_refuses : gNm yL_refuses 2 := by unfold gNm; decide +kernel
theorem cd_X5_due : Cond.code yX5_due cX5_due 6 (some .int) ∈ gG := gG_mem (List.mem_of_getElem? (i := 874) (by decide +kernel)) rfl
theorem nm_X5_due : gNm yX5_due 4 := by unfold gNm; decide +kernel
theorem cd_X1_dueDayByDay : Cond.code yX1_dueDayByDay cX1_dueDayByDay 5 (some .int) ∈ gG := gG_mem (List.mem_of_getElem? (i := 878) (by decide +kernel)) rfl
theorem nm_X1_dueDayByDay : gNm yX1_dueDayByDay 2 := by unfold gNm; decide +kernel
theorem cd_X1_dueByWeeks : Cond.code yX1_dueByWeeks cX1_dueByWeeks 6 (some .int) ∈ gG := gG_mem (List.mem_of_getElem? (i := 882) (by decide +kernel)) rfl
theorem nm_X1_dueByWeeks : gNm yX1_dueByWeeks 2 := by unfold gNm; decide +kernel
theorem cd_X1_orderedInHolidays : Cond.code yX1_orderedInHolidays cX1_orderedInHolidays 7 (some .int) ∈ gG := gG_mem (List.mem_of_getElem? (i := 886) (by decide +kernel)) rfl
theorem nm_X1_orderedInHolidays : gNm yX1_orderedInHolidays 2 := by unfold gNm; decide +kernel
theorem cd_X5_close : Cond.code yX5_close cX5_close 4 (some .int) ∈ gG := gG_mem (List.mem_of_getElem? (i := 895) (by decide +kernel)) rfl
theorem nm_X5_close : gNm yX5_close 3 := by unfold gNm; decide +kernel
theorem cd_X5_runScript : Cond.code yX5_runScript cX5_runScript 7 (some .int) ∈ gG := gG_mem (List.mem_of_getElem? (i := 902) (by decide +kernel)) rfl
theorem nm_X5_runScript : gNm yX5_runScript 2 := by unfold gNm; decide +kernel
theorem cd_X5_groupOf : Cond.code yX5_groupOf cX5_groupOf 6 (some .int) ∈ gG := gG_mem (List.mem_of_getElem? (i := 906) (by decide +kernel)) rfl
theorem nm_X5_groupOf : gNm yX5_groupOf 2 := by unfold gNm; decide +kernel
set_option maxRecDepth 1000000 in
theorem cd_X5_succeeds : Cond.code yX5_succeeds cX5_succeeds 7 (some .boolean) ∈ gG := gG_mem (List.mem_of_getElem? (i := 910) rfl) rfl
theorem nm_X5_succeeds : gNm yX5_succeeds 1 := by unfold gNm; decide +kernel
theorem cd_X0_loavesGot : Cond.code yX0_loavesGot cX0_loavesGot 1 (some .int) ∈ gG := gG_mem (List.mem_of_getElem? (i := 915) (by decide +kernel)) rfl
theorem nm_X0_loavesGot : gNm yX0_loavesGot 0 := by unfold gNm; decide +kernel
theorem cd_X5_simulate : Cond.code yX5_simulate cX5_simulate 7 (some .int) ∈ gG := gG_mem (List.mem_of_getElem? (i := 923) (by decide +kernel)) rfl
theorem nm_X5_simulate : gNm yX5_simulate 2 := by unfold gNm; decide +kernel
set_option maxRecDepth 1000000 in
theorem cd_X5_takeTurn : Cond.code yX5_takeTurn cX5_takeTurn 4 none ∈ gG := gG_mem (List.mem_of_getElem? (i := 929) rfl) rfl
theorem nm_X5_takeTurn : gNm yX5_takeTurn 1 := by unfold gNm; decide +kernel
set_option maxRecDepth 1000000 in
theorem cd_L_holds : Cond.code yL_holds cL_holds 20 (some .boolean) ∈ gG := gG_mem (List.mem_of_getElem? (i := 933) rfl) rfl
theorem nm_L_holds : gNm yL_holds 2 := by unfold gNm; decide +kernel
set_option maxRecDepth 1000000 in
theorem cd_L_act : Cond.code yL_act cL_act 5 (some .int) ∈ gG := gG_mem (List.mem_of_getElem? (i := 936) rfl) rfl
theorem nm_L_act : gNm yL_act 2 := by unfold gNm; decide +kernel
theorem cd_L_alike : Cond.code yL_alike cL_alike 5 (some .boolean) ∈ gG := gG_mem (List.mem_of_getElem? (i := 939) (by decide +kernel)) rfl
theorem nm_L_alike : gNm yL_alike 3 := by unfold gNm; decide +kernel
set_option maxRecDepth 1000000 in
theorem cd_L_goesOn : Cond.code yL_goesOn cL_goesOn 20 (some .boolean) ∈ gG := gG_mem (List.mem_of_getElem? (i := 942) rfl) rfl
theorem nm_L_goesOn : gNm yL_goesOn 3 := by unfold gNm; decide +kernel
theorem cd_L_waits : Cond.code yL_waits cL_waits 7 (some .boolean) ∈ gG := gG_mem (List.mem_of_getElem? (i := 945) (by decide +kernel)) rfl
theorem nm_L_waits : gNm yL_waits 3 := by unfold gNm; decide +kernel
theorem cd_L_undoes : Cond.code yL_undoes cL_undoes 5 (some .boolean) ∈ gG := gG_mem (List.mem_of_getElem? (i := 948) (by decide +kernel)) rfl
theorem nm_L_undoes : gNm yL_undoes 3 := by unfold gNm; decide +kernel
theorem cd_L_thrown : Cond.code yL_thrown cL_thrown 1 (some .boolean) ∈ gG := gG_mem (List.mem_of_getElem? (i := 951) (by decide +kernel)) rfl
theorem nm_L_thrown : gNm yL_thrown 1 := by unfold gNm; decide +kernel
set_option maxRecDepth 1000000 in
theorem cd_L_best : Cond.code yL_best cL_best 13 (some .boolean) ∈ gG := gG_mem (List.mem_of_getElem? (i := 954) rfl) rfl
theorem nm_L_best : gNm yL_best 3 := by unfold gNm; decide +kernel
theorem cd_L_isOrder : Cond.code yL_isOrder cL_isOrder 2 (some .boolean) ∈ gG := gG_mem (List.mem_of_getElem? (i := 957) (by decide +kernel)) rfl
theorem nm_L_isOrder : gNm yL_isOrder 2 := by unfold gNm; decide +kernel
theorem wX5_41 : Cond.methodLink RX5 41 yX5_isWithin ∈ gG ∧ Cond.static yX5_isWithin ∈ gG ∧ Cond.initialized (yX5_isWithin).cls ∈ gG := ⟨gG_mem (List.mem_of_getElem? (i := 257) (by decide +kernel)) rfl, gG_mem (List.mem_of_getElem? (i := 258) (by decide +kernel)) rfl, gG_mem (List.mem_of_getElem? (i := 59) (by decide +kernel)) rfl⟩
theorem wX5_45 : Cond.methodLink RX5 45 yX5_demandArgument ∈ gG ∧ Cond.static yX5_demandArgument ∈ gG ∧ Cond.initialized (yX5_demandArgument).cls ∈ gG := ⟨gG_mem (List.mem_of_getElem? (i := 260) (by decide +kernel)) rfl, gG_mem (List.mem_of_getElem? (i := 261) (by decide +kernel)) rfl, gG_mem (List.mem_of_getElem? (i := 59) (by decide +kernel)) rfl⟩
theorem wX5_53 : Cond.methodLink RX5 53 yX5_demandState ∈ gG ∧ Cond.static yX5_demandState ∈ gG ∧ Cond.initialized (yX5_demandState).cls ∈ gG := ⟨gG_mem (List.mem_of_getElem? (i := 331) (by decide +kernel)) rfl, gG_mem (List.mem_of_getElem? (i := 332) (by decide +kernel)) rfl, gG_mem (List.mem_of_getElem? (i := 59) (by decide +kernel)) rfl⟩
theorem wX5_88 : Cond.methodLink RX5 88 yX5_demandPlace ∈ gG ∧ Cond.static yX5_demandPlace ∈ gG ∧ Cond.initialized (yX5_demandPlace).cls ∈ gG := ⟨gG_mem (List.mem_of_getElem? (i := 632) (by decide +kernel)) rfl, gG_mem (List.mem_of_getElem? (i := 633) (by decide +kernel)) rfl, gG_mem (List.mem_of_getElem? (i := 59) (by decide +kernel)) rfl⟩
theorem wX5_107 : Cond.methodLink RX5 107 yX5_isWeekday ∈ gG ∧ Cond.static yX5_isWeekday ∈ gG ∧ Cond.initialized (yX5_isWeekday).cls ∈ gG := ⟨gG_mem (List.mem_of_getElem? (i := 666) (by decide +kernel)) rfl, gG_mem (List.mem_of_getElem? (i := 484) (by decide +kernel)) rfl, gG_mem (List.mem_of_getElem? (i := 59) (by decide +kernel)) rfl⟩
theorem wX5_123 : Cond.methodLink RX5 123 yX5_isStreet ∈ gG ∧ Cond.static yX5_isStreet ∈ gG ∧ Cond.initialized (yX5_isStreet).cls ∈ gG := ⟨gG_mem (List.mem_of_getElem? (i := 681) (by decide +kernel)) rfl, gG_mem (List.mem_of_getElem? (i := 464) (by decide +kernel)) rfl, gG_mem (List.mem_of_getElem? (i := 59) (by decide +kernel)) rfl⟩
theorem wX5_133 : Cond.methodLink RX5 133 yX5_isSetting ∈ gG ∧ Cond.static yX5_isSetting ∈ gG ∧ Cond.initialized (yX5_isSetting).cls ∈ gG := ⟨gG_mem (List.mem_of_getElem? (i := 697) (by decide +kernel)) rfl, gG_mem (List.mem_of_getElem? (i := 487) (by decide +kernel)) rfl, gG_mem (List.mem_of_getElem? (i := 59) (by decide +kernel)) rfl⟩
theorem wX5_146 : Cond.methodLink RX5 146 yX5_act ∈ gG ∧ Cond.instanceMethod yX5_act ∈ gG ∧ Cond.selects RX5 yX5_act yX5_act ∈ gG ∧ Cond.initialized (yX5_act).cls ∈ gG := ⟨gG_mem (List.mem_of_getElem? (i := 705) (by decide +kernel)) rfl, gG_mem (List.mem_of_getElem? (i := 707) (by decide +kernel)) rfl, gG_mem (List.mem_of_getElem? (i := 42) (by decide +kernel)) rfl, gG_mem (List.mem_of_getElem? (i := 59) (by decide +kernel)) rfl⟩
theorem wX5_178 : Cond.methodLink RX5 178 yX5_tellEachStreet ∈ gG ∧ Cond.static yX5_tellEachStreet ∈ gG ∧ Cond.initialized (yX5_tellEachStreet).cls ∈ gG := ⟨gG_mem (List.mem_of_getElem? (i := 831) (by decide +kernel)) rfl, gG_mem (List.mem_of_getElem? (i := 832) (by decide +kernel)) rfl, gG_mem (List.mem_of_getElem? (i := 59) (by decide +kernel)) rfl⟩
theorem wX5_193 : Cond.methodLink RX5 193 yX5_groupOf ∈ gG ∧ Cond.static yX5_groupOf ∈ gG ∧ Cond.initialized (yX5_groupOf).cls ∈ gG := ⟨gG_mem (List.mem_of_getElem? (i := 904) (by decide +kernel)) rfl, gG_mem (List.mem_of_getElem? (i := 905) (by decide +kernel)) rfl, gG_mem (List.mem_of_getElem? (i := 59) (by decide +kernel)) rfl⟩
theorem wX5_197 : Cond.methodLink RX5 197 yX5_succeeds ∈ gG ∧ Cond.instanceMethod yX5_succeeds ∈ gG ∧ Cond.selects RX5 yX5_succeeds yX5_succeeds ∈ gG ∧ Cond.initialized (yX5_succeeds).cls ∈ gG := ⟨gG_mem (List.mem_of_getElem? (i := 907) (by decide +kernel)) rfl, gG_mem (List.mem_of_getElem? (i := 909) (by decide +kernel)) rfl, gG_mem (List.mem_of_getElem? (i := 55) (by decide +kernel)) rfl, gG_mem (List.mem_of_getElem? (i := 59) (by decide +kernel)) rfl⟩
theorem wX5_204 : Cond.methodLink RX5 204 yX5_takeTurn ∈ gG ∧ Cond.instanceMethod yX5_takeTurn ∈ gG ∧ Cond.selects RX5 yX5_takeTurn yX5_takeTurn ∈ gG ∧ Cond.initialized (yX5_takeTurn).cls ∈ gG := ⟨gG_mem (List.mem_of_getElem? (i := 926) (by decide +kernel)) rfl, gG_mem (List.mem_of_getElem? (i := 928) (by decide +kernel)) rfl, gG_mem (List.mem_of_getElem? (i := 57) (by decide +kernel)) rfl, gG_mem (List.mem_of_getElem? (i := 59) (by decide +kernel)) rfl⟩
theorem wX5_207 : Cond.methodLink RX5 207 yX5_isSlot ∈ gG ∧ Cond.static yX5_isSlot ∈ gG ∧ Cond.initialized (yX5_isSlot).cls ∈ gG := ⟨gG_mem (List.mem_of_getElem? (i := 850) (by decide +kernel)) rfl, gG_mem (List.mem_of_getElem? (i := 851) (by decide +kernel)) rfl, gG_mem (List.mem_of_getElem? (i := 59) (by decide +kernel)) rfl⟩
theorem wX0_32 : Cond.methodLink RX0 32 yX0_makeNew ∈ gG ∧ Cond.instanceMethod yX0_makeNew ∈ gG ∧ Cond.selects RX0 yX0_makeNew yX0_makeNew ∈ gG ∧ Cond.initialized (yX0_makeNew).cls ∈ gG := ⟨gG_mem (List.mem_of_getElem? (i := 159) (by decide +kernel)) rfl, gG_mem (List.mem_of_getElem? (i := 161) (by decide +kernel)) rfl, gG_mem (List.mem_of_getElem? (i := 0) (by decide +kernel)) rfl, gG_mem (List.mem_of_getElem? (i := 61) (by decide +kernel)) rfl⟩
theorem wX0_67 : Cond.methodLink RX0 67 yX0_sumOf ∈ gG ∧ Cond.instanceMethod yX0_sumOf ∈ gG ∧ Cond.selects RX0 yX0_sumOf yX0_sumOf ∈ gG ∧ Cond.initialized (yX0_sumOf).cls ∈ gG := ⟨gG_mem (List.mem_of_getElem? (i := 611) (by decide +kernel)) rfl, gG_mem (List.mem_of_getElem? (i := 613) (by decide +kernel)) rfl, gG_mem (List.mem_of_getElem? (i := 38) (by decide +kernel)) rfl, gG_mem (List.mem_of_getElem? (i := 61) (by decide +kernel)) rfl⟩
theorem wX0_71 : Cond.methodLink RX0 71 yX0_dueToAll ∈ gG ∧ Cond.instanceMethod yX0_dueToAll ∈ gG ∧ Cond.selects RX0 yX0_dueToAll yX0_dueToAll ∈ gG ∧ Cond.initialized (yX0_dueToAll).cls ∈ gG := ⟨gG_mem (List.mem_of_getElem? (i := 541) (by decide +kernel)) rfl, gG_mem (List.mem_of_getElem? (i := 543) (by decide +kernel)) rfl, gG_mem (List.mem_of_getElem? (i := 25) (by decide +kernel)) rfl, gG_mem (List.mem_of_getElem? (i := 61) (by decide +kernel)) rfl⟩
theorem wX0_87 : Cond.methodLink RX0 87 yX0_isShut ∈ gG ∧ Cond.instanceMethod yX0_isShut ∈ gG ∧ Cond.selects RX0 yX0_isShut yX0_isShut ∈ gG ∧ Cond.initialized (yX0_isShut).cls ∈ gG := ⟨gG_mem (List.mem_of_getElem? (i := 517) (by decide +kernel)) rfl, gG_mem (List.mem_of_getElem? (i := 519) (by decide +kernel)) rfl, gG_mem (List.mem_of_getElem? (i := 19) (by decide +kernel)) rfl, gG_mem (List.mem_of_getElem? (i := 61) (by decide +kernel)) rfl⟩
theorem wX0_100 : Cond.methodLink RX0 100 yX0_firstRefusal ∈ gG ∧ Cond.static yX0_firstRefusal ∈ gG ∧ Cond.initialized (yX0_firstRefusal).cls ∈ gG := ⟨gG_mem (List.mem_of_getElem? (i := 468) (by decide +kernel)) rfl, gG_mem (List.mem_of_getElem? (i := 469) (by decide +kernel)) rfl, gG_mem (List.mem_of_getElem? (i := 61) (by decide +kernel)) rfl⟩
theorem wX0_104 : Cond.methodLink RX0 104 yX0_hasCustomer ∈ gG ∧ Cond.instanceMethod yX0_hasCustomer ∈ gG ∧ Cond.selects RX0 yX0_hasCustomer yX0_hasCustomer ∈ gG ∧ Cond.initialized (yX0_hasCustomer).cls ∈ gG := ⟨gG_mem (List.mem_of_getElem? (i := 479) (by decide +kernel)) rfl, gG_mem (List.mem_of_getElem? (i := 481) (by decide +kernel)) rfl, gG_mem (List.mem_of_getElem? (i := 12) (by decide +kernel)) rfl, gG_mem (List.mem_of_getElem? (i := 61) (by decide +kernel)) rfl⟩
theorem wX0_137 : Cond.methodLink RX0 137 yX0_refusalOf ∈ gG ∧ Cond.instanceMethod yX0_refusalOf ∈ gG ∧ Cond.selects RX0 yX0_refusalOf yX0_refusalOf ∈ gG ∧ Cond.initialized (yX0_refusalOf).cls ∈ gG := ⟨gG_mem (List.mem_of_getElem? (i := 459) (by decide +kernel)) rfl, gG_mem (List.mem_of_getElem? (i := 461) (by decide +kernel)) rfl, gG_mem (List.mem_of_getElem? (i := 11) (by decide +kernel)) rfl, gG_mem (List.mem_of_getElem? (i := 61) (by decide +kernel)) rfl⟩
theorem wX0_141 : Cond.methodLink RX0 141 yX0_addCustomer ∈ gG ∧ Cond.instanceMethod yX0_addCustomer ∈ gG ∧ Cond.selects RX0 yX0_addCustomer yX0_addCustomer ∈ gG ∧ Cond.initialized (yX0_addCustomer).cls ∈ gG := ⟨gG_mem (List.mem_of_getElem? (i := 493) (by decide +kernel)) rfl, gG_mem (List.mem_of_getElem? (i := 495) (by decide +kernel)) rfl, gG_mem (List.mem_of_getElem? (i := 13) (by decide +kernel)) rfl, gG_mem (List.mem_of_getElem? (i := 61) (by decide +kernel)) rfl⟩
theorem wX0_154 : Cond.methodLink RX0 154 yX0_closeStreet ∈ gG ∧ Cond.instanceMethod yX0_closeStreet ∈ gG ∧ Cond.selects RX0 yX0_closeStreet yX0_closeStreet ∈ gG ∧ Cond.initialized (yX0_closeStreet).cls ∈ gG := ⟨gG_mem (List.mem_of_getElem? (i := 513) (by decide +kernel)) rfl, gG_mem (List.mem_of_getElem? (i := 515) (by decide +kernel)) rfl, gG_mem (List.mem_of_getElem? (i := 18) (by decide +kernel)) rfl, gG_mem (List.mem_of_getElem? (i := 61) (by decide +kernel)) rfl⟩
theorem wX0_158 : Cond.methodLink RX0 158 yX0_swapStreets ∈ gG ∧ Cond.instanceMethod yX0_swapStreets ∈ gG ∧ Cond.selects RX0 yX0_swapStreets yX0_swapStreets ∈ gG ∧ Cond.initialized (yX0_swapStreets).cls ∈ gG := ⟨gG_mem (List.mem_of_getElem? (i := 521) (by decide +kernel)) rfl, gG_mem (List.mem_of_getElem? (i := 523) (by decide +kernel)) rfl, gG_mem (List.mem_of_getElem? (i := 20) (by decide +kernel)) rfl, gG_mem (List.mem_of_getElem? (i := 61) (by decide +kernel)) rfl⟩
theorem wX0_161 : Cond.methodLink RX0 161 yX0_changeSetting ∈ gG ∧ Cond.instanceMethod yX0_changeSetting ∈ gG ∧ Cond.selects RX0 yX0_changeSetting yX0_changeSetting ∈ gG ∧ Cond.initialized (yX0_changeSetting).cls ∈ gG := ⟨gG_mem (List.mem_of_getElem? (i := 529) (by decide +kernel)) rfl, gG_mem (List.mem_of_getElem? (i := 531) (by decide +kernel)) rfl, gG_mem (List.mem_of_getElem? (i := 22) (by decide +kernel)) rfl, gG_mem (List.mem_of_getElem? (i := 61) (by decide +kernel)) rfl⟩
theorem wX0_164 : Cond.methodLink RX0 164 yX0_deliver ∈ gG ∧ Cond.instanceMethod yX0_deliver ∈ gG ∧ Cond.selects RX0 yX0_deliver yX0_deliver ∈ gG ∧ Cond.initialized (yX0_deliver).cls ∈ gG := ⟨gG_mem (List.mem_of_getElem? (i := 533) (by decide +kernel)) rfl, gG_mem (List.mem_of_getElem? (i := 535) (by decide +kernel)) rfl, gG_mem (List.mem_of_getElem? (i := 23) (by decide +kernel)) rfl, gG_mem (List.mem_of_getElem? (i := 61) (by decide +kernel)) rfl⟩
theorem wX0_171 : Cond.methodLink RX0 171 yX0_placeOf ∈ gG ∧ Cond.instanceMethod yX0_placeOf ∈ gG ∧ Cond.selects RX0 yX0_placeOf yX0_placeOf ∈ gG ∧ Cond.initialized (yX0_placeOf).cls ∈ gG := ⟨gG_mem (List.mem_of_getElem? (i := 525) (by decide +kernel)) rfl, gG_mem (List.mem_of_getElem? (i := 527) (by decide +kernel)) rfl, gG_mem (List.mem_of_getElem? (i := 21) (by decide +kernel)) rfl, gG_mem (List.mem_of_getElem? (i := 61) (by decide +kernel)) rfl⟩
theorem wX0_174 : Cond.methodLink RX0 174 yX0_planVisits ∈ gG ∧ Cond.instanceMethod yX0_planVisits ∈ gG ∧ Cond.selects RX0 yX0_planVisits yX0_planVisits ∈ gG ∧ Cond.initialized (yX0_planVisits).cls ∈ gG := ⟨gG_mem (List.mem_of_getElem? (i := 537) (by decide +kernel)) rfl, gG_mem (List.mem_of_getElem? (i := 539) (by decide +kernel)) rfl, gG_mem (List.mem_of_getElem? (i := 24) (by decide +kernel)) rfl, gG_mem (List.mem_of_getElem? (i := 61) (by decide +kernel)) rfl⟩
theorem wX0_177 : Cond.methodLink RX0 177 yX0_loavesFor ∈ gG ∧ Cond.instanceMethod yX0_loavesFor ∈ gG ∧ Cond.selects RX0 yX0_loavesFor yX0_loavesFor ∈ gG ∧ Cond.initialized (yX0_loavesFor).cls ∈ gG := ⟨gG_mem (List.mem_of_getElem? (i := 556) (by decide +kernel)) rfl, gG_mem (List.mem_of_getElem? (i := 558) (by decide +kernel)) rfl, gG_mem (List.mem_of_getElem? (i := 28) (by decide +kernel)) rfl, gG_mem (List.mem_of_getElem? (i := 61) (by decide +kernel)) rfl⟩
theorem wX0_180 : Cond.methodLink RX0 180 yX0_handOut ∈ gG ∧ Cond.instanceMethod yX0_handOut ∈ gG ∧ Cond.selects RX0 yX0_handOut yX0_handOut ∈ gG ∧ Cond.initialized (yX0_handOut).cls ∈ gG := ⟨gG_mem (List.mem_of_getElem? (i := 563) (by decide +kernel)) rfl, gG_mem (List.mem_of_getElem? (i := 565) (by decide +kernel)) rfl, gG_mem (List.mem_of_getElem? (i := 29) (by decide +kernel)) rfl, gG_mem (List.mem_of_getElem? (i := 61) (by decide +kernel)) rfl⟩
theorem wX0_183 : Cond.methodLink RX0 183 yX0_makeGood ∈ gG ∧ Cond.instanceMethod yX0_makeGood ∈ gG ∧ Cond.selects RX0 yX0_makeGood yX0_makeGood ∈ gG ∧ Cond.initialized (yX0_makeGood).cls ∈ gG := ⟨gG_mem (List.mem_of_getElem? (i := 576) (by decide +kernel)) rfl, gG_mem (List.mem_of_getElem? (i := 578) (by decide +kernel)) rfl, gG_mem (List.mem_of_getElem? (i := 32) (by decide +kernel)) rfl, gG_mem (List.mem_of_getElem? (i := 61) (by decide +kernel)) rfl⟩
theorem wX0_186 : Cond.methodLink RX0 186 yX0_payBack ∈ gG ∧ Cond.instanceMethod yX0_payBack ∈ gG ∧ Cond.selects RX0 yX0_payBack yX0_payBack ∈ gG ∧ Cond.initialized (yX0_payBack).cls ∈ gG := ⟨gG_mem (List.mem_of_getElem? (i := 588) (by decide +kernel)) rfl, gG_mem (List.mem_of_getElem? (i := 590) (by decide +kernel)) rfl, gG_mem (List.mem_of_getElem? (i := 35) (by decide +kernel)) rfl, gG_mem (List.mem_of_getElem? (i := 61) (by decide +kernel)) rfl⟩
theorem wX0_194 : Cond.methodLink RX0 194 yX0_isReached ∈ gG ∧ Cond.instanceMethod yX0_isReached ∈ gG ∧ Cond.selects RX0 yX0_isReached yX0_isReached ∈ gG ∧ Cond.initialized (yX0_isReached).cls ∈ gG := ⟨gG_mem (List.mem_of_getElem? (i := 567) (by decide +kernel)) rfl, gG_mem (List.mem_of_getElem? (i := 569) (by decide +kernel)) rfl, gG_mem (List.mem_of_getElem? (i := 30) (by decide +kernel)) rfl, gG_mem (List.mem_of_getElem? (i := 61) (by decide +kernel)) rfl⟩
theorem wX0_217 : Cond.methodLink RX0 217 yX0_leftBefore ∈ gG ∧ Cond.instanceMethod yX0_leftBefore ∈ gG ∧ Cond.selects RX0 yX0_leftBefore yX0_leftBefore ∈ gG ∧ Cond.initialized (yX0_leftBefore).cls ∈ gG := ⟨gG_mem (List.mem_of_getElem? (i := 792) (by decide +kernel)) rfl, gG_mem (List.mem_of_getElem? (i := 794) (by decide +kernel)) rfl, gG_mem (List.mem_of_getElem? (i := 48) (by decide +kernel)) rfl, gG_mem (List.mem_of_getElem? (i := 61) (by decide +kernel)) rfl⟩
theorem wX1_52 : Cond.methodLink RX1 52 yX1_loavesAWeek ∈ gG ∧ Cond.instanceMethod yX1_loavesAWeek ∈ gG ∧ Cond.selects RX1 yX1_loavesAWeek yX1_loavesAWeek ∈ gG ∧ Cond.initialized (yX1_loavesAWeek).cls ∈ gG := ⟨gG_mem (List.mem_of_getElem? (i := 619) (by decide +kernel)) rfl, gG_mem (List.mem_of_getElem? (i := 621) (by decide +kernel)) rfl, gG_mem (List.mem_of_getElem? (i := 40) (by decide +kernel)) rfl, gG_mem (List.mem_of_getElem? (i := 62) (by decide +kernel)) rfl⟩
theorem wX1_56 : Cond.methodLink RX1 56 yX1_isInFirstHolidays ∈ gG ∧ Cond.instanceMethod yX1_isInFirstHolidays ∈ gG ∧ Cond.selects RX1 yX1_isInFirstHolidays yX1_isInFirstHolidays ∈ gG ∧ Cond.initialized (yX1_isInFirstHolidays).cls ∈ gG := ⟨gG_mem (List.mem_of_getElem? (i := 549) (by decide +kernel)) rfl, gG_mem (List.mem_of_getElem? (i := 551) (by decide +kernel)) rfl, gG_mem (List.mem_of_getElem? (i := 27) (by decide +kernel)) rfl, gG_mem (List.mem_of_getElem? (i := 62) (by decide +kernel)) rfl⟩
theorem wX1_64 : Cond.methodLink RX1 64 yX1_dueOn ∈ gG ∧ Cond.instanceMethod yX1_dueOn ∈ gG ∧ Cond.selects RX1 yX1_dueOn yX1_dueOn ∈ gG ∧ Cond.initialized (yX1_dueOn).cls ∈ gG := ⟨gG_mem (List.mem_of_getElem? (i := 656) (by decide +kernel)) rfl, gG_mem (List.mem_of_getElem? (i := 547) (by decide +kernel)) rfl, gG_mem (List.mem_of_getElem? (i := 26) (by decide +kernel)) rfl, gG_mem (List.mem_of_getElem? (i := 62) (by decide +kernel)) rfl⟩
theorem wX1_67 : Cond.methodLink RX1 67 yX1_orderedInHolidays ∈ gG ∧ Cond.instanceMethod yX1_orderedInHolidays ∈ gG ∧ Cond.selects RX1 yX1_orderedInHolidays yX1_orderedInHolidays ∈ gG ∧ Cond.initialized (yX1_orderedInHolidays).cls ∈ gG := ⟨gG_mem (List.mem_of_getElem? (i := 883) (by decide +kernel)) rfl, gG_mem (List.mem_of_getElem? (i := 885) (by decide +kernel)) rfl, gG_mem (List.mem_of_getElem? (i := 54) (by decide +kernel)) rfl, gG_mem (List.mem_of_getElem? (i := 62) (by decide +kernel)) rfl⟩
theorem wX4_35 : Cond.methodLink RX4 35 yX4_signAt ∈ gG ∧ Cond.instanceMethod yX4_signAt ∈ gG ∧ Cond.selects RX4 yX4_signAt yX4_signAt ∈ gG ∧ Cond.initialized (yX4_signAt).cls ∈ gG := ⟨gG_mem (List.mem_of_getElem? (i := 367) (by decide +kernel)) rfl, gG_mem (List.mem_of_getElem? (i := 369) (by decide +kernel)) rfl, gG_mem (List.mem_of_getElem? (i := 4) (by decide +kernel)) rfl, gG_mem (List.mem_of_getElem? (i := 60) (by decide +kernel)) rfl⟩
theorem wX4_39 : Cond.methodLink RX4 39 yX4_formOf ∈ gG ∧ Cond.static yX4_formOf ∈ gG ∧ Cond.initialized (yX4_formOf).cls ∈ gG := ⟨gG_mem (List.mem_of_getElem? (i := 371) (by decide +kernel)) rfl, gG_mem (List.mem_of_getElem? (i := 372) (by decide +kernel)) rfl, gG_mem (List.mem_of_getElem? (i := 60) (by decide +kernel)) rfl⟩
theorem wX4_55 : Cond.methodLink RX4 55 yX4_isAllowed ∈ gG ∧ Cond.instanceMethod yX4_isAllowed ∈ gG ∧ Cond.selects RX4 yX4_isAllowed yX4_isAllowed ∈ gG ∧ Cond.initialized (yX4_isAllowed).cls ∈ gG := ⟨gG_mem (List.mem_of_getElem? (i := 434) (by decide +kernel)) rfl, gG_mem (List.mem_of_getElem? (i := 436) (by decide +kernel)) rfl, gG_mem (List.mem_of_getElem? (i := 5) (by decide +kernel)) rfl, gG_mem (List.mem_of_getElem? (i := 60) (by decide +kernel)) rfl⟩
theorem wX4_59 : Cond.methodLink RX4 59 yX4_formLength ∈ gG ∧ Cond.instanceMethod yX4_formLength ∈ gG ∧ Cond.selects RX4 yX4_formLength yX4_formLength ∈ gG ∧ Cond.initialized (yX4_formLength).cls ∈ gG := ⟨gG_mem (List.mem_of_getElem? (i := 438) (by decide +kernel)) rfl, gG_mem (List.mem_of_getElem? (i := 440) (by decide +kernel)) rfl, gG_mem (List.mem_of_getElem? (i := 6) (by decide +kernel)) rfl, gG_mem (List.mem_of_getElem? (i := 60) (by decide +kernel)) rfl⟩
theorem wX4_63 : Cond.methodLink RX4 63 yX4_numberAt ∈ gG ∧ Cond.instanceMethod yX4_numberAt ∈ gG ∧ Cond.selects RX4 yX4_numberAt yX4_numberAt ∈ gG ∧ Cond.initialized (yX4_numberAt).cls ∈ gG := ⟨gG_mem (List.mem_of_getElem? (i := 451) (by decide +kernel)) rfl, gG_mem (List.mem_of_getElem? (i := 453) (by decide +kernel)) rfl, gG_mem (List.mem_of_getElem? (i := 9) (by decide +kernel)) rfl, gG_mem (List.mem_of_getElem? (i := 60) (by decide +kernel)) rfl⟩
theorem wL_7 : Cond.methodLink RL 7 yX5_due ∈ gG ∧ Cond.instanceMethod yX5_due ∈ gG ∧ Cond.selects RX5 yX5_due yX5_due ∈ gG ∧ Cond.initialized (yX5_due).cls ∈ gG := ⟨gG_mem (List.mem_of_getElem? (i := 871) (by decide +kernel)) rfl, gG_mem (List.mem_of_getElem? (i := 872) (by decide +kernel)) rfl, gG_mem (List.mem_of_getElem? (i := 873) (by decide +kernel)) rfl, gG_mem (List.mem_of_getElem? (i := 59) (by decide +kernel)) rfl⟩
theorem wL_19 : Cond.methodLink RL 19 yX5_close ∈ gG ∧ Cond.instanceMethod yX5_close ∈ gG ∧ Cond.selects RX5 yX5_close yX5_close ∈ gG ∧ Cond.initialized (yX5_close).cls ∈ gG := ⟨gG_mem (List.mem_of_getElem? (i := 892) (by decide +kernel)) rfl, gG_mem (List.mem_of_getElem? (i := 893) (by decide +kernel)) rfl, gG_mem (List.mem_of_getElem? (i := 894) (by decide +kernel)) rfl, gG_mem (List.mem_of_getElem? (i := 59) (by decide +kernel)) rfl⟩
theorem wL_23 : Cond.methodLink RL 23 yX5_runScript ∈ gG ∧ Cond.instanceMethod yX5_runScript ∈ gG ∧ Cond.selects RX5 yX5_runScript yX5_runScript ∈ gG ∧ Cond.initialized (yX5_runScript).cls ∈ gG := ⟨gG_mem (List.mem_of_getElem? (i := 899) (by decide +kernel)) rfl, gG_mem (List.mem_of_getElem? (i := 900) (by decide +kernel)) rfl, gG_mem (List.mem_of_getElem? (i := 901) (by decide +kernel)) rfl, gG_mem (List.mem_of_getElem? (i := 59) (by decide +kernel)) rfl⟩
theorem wL_27 : Cond.methodLink RL 27 yX5_simulate ∈ gG ∧ Cond.instanceMethod yX5_simulate ∈ gG ∧ Cond.selects RX5 yX5_simulate yX5_simulate ∈ gG ∧ Cond.initialized (yX5_simulate).cls ∈ gG := ⟨gG_mem (List.mem_of_getElem? (i := 920) (by decide +kernel)) rfl, gG_mem (List.mem_of_getElem? (i := 921) (by decide +kernel)) rfl, gG_mem (List.mem_of_getElem? (i := 922) (by decide +kernel)) rfl, gG_mem (List.mem_of_getElem? (i := 59) (by decide +kernel)) rfl⟩
theorem wL_31 : Cond.methodLink RL 31 yX5_append ∈ gG ∧ Cond.instanceMethod yX5_append ∈ gG ∧ Cond.selects RX5 yX5_append yX5_append ∈ gG ∧ Cond.initialized (yX5_append).cls ∈ gG := ⟨gG_mem (List.mem_of_getElem? (i := 253) (by decide +kernel)) rfl, gG_mem (List.mem_of_getElem? (i := 254) (by decide +kernel)) rfl, gG_mem (List.mem_of_getElem? (i := 255) (by decide +kernel)) rfl, gG_mem (List.mem_of_getElem? (i := 59) (by decide +kernel)) rfl⟩
theorem wL_38 : Cond.methodLink RL 38 yX5_load ∈ gG ∧ Cond.instanceMethod yX5_load ∈ gG ∧ Cond.selects RX5 yX5_load yX5_load ∈ gG ∧ Cond.initialized (yX5_load).cls ∈ gG := ⟨gG_mem (List.mem_of_getElem? (i := 359) (by decide +kernel)) rfl, gG_mem (List.mem_of_getElem? (i := 360) (by decide +kernel)) rfl, gG_mem (List.mem_of_getElem? (i := 361) (by decide +kernel)) rfl, gG_mem (List.mem_of_getElem? (i := 59) (by decide +kernel)) rfl⟩
theorem wL_42 : Cond.methodLink RL 42 yX5_about ∈ gG ∧ Cond.instanceMethod yX5_about ∈ gG ∧ Cond.selects RX5 yX5_about yX5_about ∈ gG ∧ Cond.initialized (yX5_about).cls ∈ gG := ⟨gG_mem (List.mem_of_getElem? (i := 603) (by decide +kernel)) rfl, gG_mem (List.mem_of_getElem? (i := 604) (by decide +kernel)) rfl, gG_mem (List.mem_of_getElem? (i := 605) (by decide +kernel)) rfl, gG_mem (List.mem_of_getElem? (i := 59) (by decide +kernel)) rfl⟩
theorem wL_45 : Cond.methodLink RL 45 yX5_customerOf ∈ gG ∧ Cond.instanceMethod yX5_customerOf ∈ gG ∧ Cond.selects RX5 yX5_customerOf yX5_customerOf ∈ gG ∧ Cond.initialized (yX5_customerOf).cls ∈ gG := ⟨gG_mem (List.mem_of_getElem? (i := 627) (by decide +kernel)) rfl, gG_mem (List.mem_of_getElem? (i := 628) (by decide +kernel)) rfl, gG_mem (List.mem_of_getElem? (i := 629) (by decide +kernel)) rfl, gG_mem (List.mem_of_getElem? (i := 59) (by decide +kernel)) rfl⟩
theorem wL_49 : Cond.methodLink RL 49 yX5_ordered ∈ gG ∧ Cond.instanceMethod yX5_ordered ∈ gG ∧ Cond.selects RX5 yX5_ordered yX5_ordered ∈ gG ∧ Cond.initialized (yX5_ordered).cls ∈ gG := ⟨gG_mem (List.mem_of_getElem? (i := 662) (by decide +kernel)) rfl, gG_mem (List.mem_of_getElem? (i := 663) (by decide +kernel)) rfl, gG_mem (List.mem_of_getElem? (i := 664) (by decide +kernel)) rfl, gG_mem (List.mem_of_getElem? (i := 59) (by decide +kernel)) rfl⟩
theorem wL_52 : Cond.methodLink RL 52 yX5_away ∈ gG ∧ Cond.instanceMethod yX5_away ∈ gG ∧ Cond.selects RX5 yX5_away yX5_away ∈ gG ∧ Cond.initialized (yX5_away).cls ∈ gG := ⟨gG_mem (List.mem_of_getElem? (i := 670) (by decide +kernel)) rfl, gG_mem (List.mem_of_getElem? (i := 671) (by decide +kernel)) rfl, gG_mem (List.mem_of_getElem? (i := 672) (by decide +kernel)) rfl, gG_mem (List.mem_of_getElem? (i := 59) (by decide +kernel)) rfl⟩
theorem wL_56 : Cond.methodLink RL 56 yX5_isClosed ∈ gG ∧ Cond.instanceMethod yX5_isClosed ∈ gG ∧ Cond.selects RX5 yX5_isClosed yX5_isClosed ∈ gG ∧ Cond.initialized (yX5_isClosed).cls ∈ gG := ⟨gG_mem (List.mem_of_getElem? (i := 677) (by decide +kernel)) rfl, gG_mem (List.mem_of_getElem? (i := 678) (by decide +kernel)) rfl, gG_mem (List.mem_of_getElem? (i := 679) (by decide +kernel)) rfl, gG_mem (List.mem_of_getElem? (i := 59) (by decide +kernel)) rfl⟩
theorem wL_59 : Cond.methodLink RL 59 yX5_round ∈ gG ∧ Cond.instanceMethod yX5_round ∈ gG ∧ Cond.selects RX5 yX5_round yX5_round ∈ gG ∧ Cond.initialized (yX5_round).cls ∈ gG := ⟨gG_mem (List.mem_of_getElem? (i := 686) (by decide +kernel)) rfl, gG_mem (List.mem_of_getElem? (i := 687) (by decide +kernel)) rfl, gG_mem (List.mem_of_getElem? (i := 688) (by decide +kernel)) rfl, gG_mem (List.mem_of_getElem? (i := 59) (by decide +kernel)) rfl⟩
theorem wL_62 : Cond.methodLink RL 62 yX5_setting ∈ gG ∧ Cond.instanceMethod yX5_setting ∈ gG ∧ Cond.selects RX5 yX5_setting yX5_setting ∈ gG ∧ Cond.initialized (yX5_setting).cls ∈ gG := ⟨gG_mem (List.mem_of_getElem? (i := 693) (by decide +kernel)) rfl, gG_mem (List.mem_of_getElem? (i := 694) (by decide +kernel)) rfl, gG_mem (List.mem_of_getElem? (i := 695) (by decide +kernel)) rfl, gG_mem (List.mem_of_getElem? (i := 59) (by decide +kernel)) rfl⟩
theorem wL_65 : Cond.methodLink RL 65 yX5_customer ∈ gG ∧ Cond.instanceMethod yX5_customer ∈ gG ∧ Cond.selects RX5 yX5_customer yX5_customer ∈ gG ∧ Cond.initialized (yX5_customer).cls ∈ gG := ⟨gG_mem (List.mem_of_getElem? (i := 701) (by decide +kernel)) rfl, gG_mem (List.mem_of_getElem? (i := 702) (by decide +kernel)) rfl, gG_mem (List.mem_of_getElem? (i := 703) (by decide +kernel)) rfl, gG_mem (List.mem_of_getElem? (i := 59) (by decide +kernel)) rfl⟩
theorem wL_68 : Cond.methodLink RL 68 yX5_change ∈ gG ∧ Cond.instanceMethod yX5_change ∈ gG ∧ Cond.selects RX5 yX5_change yX5_change ∈ gG ∧ Cond.initialized (yX5_change).cls ∈ gG := ⟨gG_mem (List.mem_of_getElem? (i := 731) (by decide +kernel)) rfl, gG_mem (List.mem_of_getElem? (i := 732) (by decide +kernel)) rfl, gG_mem (List.mem_of_getElem? (i := 733) (by decide +kernel)) rfl, gG_mem (List.mem_of_getElem? (i := 59) (by decide +kernel)) rfl⟩
theorem wL_71 : Cond.methodLink RL 71 yX5_holiday ∈ gG ∧ Cond.instanceMethod yX5_holiday ∈ gG ∧ Cond.selects RX5 yX5_holiday yX5_holiday ∈ gG ∧ Cond.initialized (yX5_holiday).cls ∈ gG := ⟨gG_mem (List.mem_of_getElem? (i := 738) (by decide +kernel)) rfl, gG_mem (List.mem_of_getElem? (i := 739) (by decide +kernel)) rfl, gG_mem (List.mem_of_getElem? (i := 740) (by decide +kernel)) rfl, gG_mem (List.mem_of_getElem? (i := 59) (by decide +kernel)) rfl⟩
theorem wL_74 : Cond.methodLink RL 74 yX5_drop ∈ gG ∧ Cond.instanceMethod yX5_drop ∈ gG ∧ Cond.selects RX5 yX5_drop yX5_drop ∈ gG ∧ Cond.initialized (yX5_drop).cls ∈ gG := ⟨gG_mem (List.mem_of_getElem? (i := 745) (by decide +kernel)) rfl, gG_mem (List.mem_of_getElem? (i := 746) (by decide +kernel)) rfl, gG_mem (List.mem_of_getElem? (i := 747) (by decide +kernel)) rfl, gG_mem (List.mem_of_getElem? (i := 59) (by decide +kernel)) rfl⟩
theorem wL_77 : Cond.methodLink RL 77 yX5_swap ∈ gG ∧ Cond.instanceMethod yX5_swap ∈ gG ∧ Cond.selects RX5 yX5_swap yX5_swap ∈ gG ∧ Cond.initialized (yX5_swap).cls ∈ gG := ⟨gG_mem (List.mem_of_getElem? (i := 752) (by decide +kernel)) rfl, gG_mem (List.mem_of_getElem? (i := 753) (by decide +kernel)) rfl, gG_mem (List.mem_of_getElem? (i := 754) (by decide +kernel)) rfl, gG_mem (List.mem_of_getElem? (i := 59) (by decide +kernel)) rfl⟩
theorem wL_80 : Cond.methodLink RL 80 yX5_set ∈ gG ∧ Cond.instanceMethod yX5_set ∈ gG ∧ Cond.selects RX5 yX5_set yX5_set ∈ gG ∧ Cond.initialized (yX5_set).cls ∈ gG := ⟨gG_mem (List.mem_of_getElem? (i := 759) (by decide +kernel)) rfl, gG_mem (List.mem_of_getElem? (i := 760) (by decide +kernel)) rfl, gG_mem (List.mem_of_getElem? (i := 761) (by decide +kernel)) rfl, gG_mem (List.mem_of_getElem? (i := 59) (by decide +kernel)) rfl⟩
theorem wL_83 : Cond.methodLink RL 83 yX5_days ∈ gG ∧ Cond.instanceMethod yX5_days ∈ gG ∧ Cond.selects RX5 yX5_days yX5_days ∈ gG ∧ Cond.initialized (yX5_days).cls ∈ gG := ⟨gG_mem (List.mem_of_getElem? (i := 766) (by decide +kernel)) rfl, gG_mem (List.mem_of_getElem? (i := 767) (by decide +kernel)) rfl, gG_mem (List.mem_of_getElem? (i := 768) (by decide +kernel)) rfl, gG_mem (List.mem_of_getElem? (i := 59) (by decide +kernel)) rfl⟩
theorem wL_86 : Cond.methodLink RL 86 yX5_undo ∈ gG ∧ Cond.instanceMethod yX5_undo ∈ gG ∧ Cond.selects RX5 yX5_undo yX5_undo ∈ gG ∧ Cond.initialized (yX5_undo).cls ∈ gG := ⟨gG_mem (List.mem_of_getElem? (i := 773) (by decide +kernel)) rfl, gG_mem (List.mem_of_getElem? (i := 774) (by decide +kernel)) rfl, gG_mem (List.mem_of_getElem? (i := 775) (by decide +kernel)) rfl, gG_mem (List.mem_of_getElem? (i := 59) (by decide +kernel)) rfl⟩
theorem wL_89 : Cond.methodLink RL 89 yX5_why ∈ gG ∧ Cond.instanceMethod yX5_why ∈ gG ∧ Cond.selects RX5 yX5_why yX5_why ∈ gG ∧ Cond.initialized (yX5_why).cls ∈ gG := ⟨gG_mem (List.mem_of_getElem? (i := 784) (by decide +kernel)) rfl, gG_mem (List.mem_of_getElem? (i := 785) (by decide +kernel)) rfl, gG_mem (List.mem_of_getElem? (i := 786) (by decide +kernel)) rfl, gG_mem (List.mem_of_getElem? (i := 59) (by decide +kernel)) rfl⟩
theorem wL_92 : Cond.methodLink RL 92 yX5_creditIn ∈ gG ∧ Cond.instanceMethod yX5_creditIn ∈ gG ∧ Cond.selects RX5 yX5_creditIn yX5_creditIn ∈ gG ∧ Cond.initialized (yX5_creditIn).cls ∈ gG := ⟨gG_mem (List.mem_of_getElem? (i := 799) (by decide +kernel)) rfl, gG_mem (List.mem_of_getElem? (i := 800) (by decide +kernel)) rfl, gG_mem (List.mem_of_getElem? (i := 801) (by decide +kernel)) rfl, gG_mem (List.mem_of_getElem? (i := 59) (by decide +kernel)) rfl⟩
theorem wL_95 : Cond.methodLink RL 95 yX5_clearIn ∈ gG ∧ Cond.instanceMethod yX5_clearIn ∈ gG ∧ Cond.selects RX5 yX5_clearIn yX5_clearIn ∈ gG ∧ Cond.initialized (yX5_clearIn).cls ∈ gG := ⟨gG_mem (List.mem_of_getElem? (i := 808) (by decide +kernel)) rfl, gG_mem (List.mem_of_getElem? (i := 809) (by decide +kernel)) rfl, gG_mem (List.mem_of_getElem? (i := 810) (by decide +kernel)) rfl, gG_mem (List.mem_of_getElem? (i := 59) (by decide +kernel)) rfl⟩
theorem wL_98 : Cond.methodLink RL 98 yX5_leastOven ∈ gG ∧ Cond.instanceMethod yX5_leastOven ∈ gG ∧ Cond.selects RX5 yX5_leastOven yX5_leastOven ∈ gG ∧ Cond.initialized (yX5_leastOven).cls ∈ gG := ⟨gG_mem (List.mem_of_getElem? (i := 815) (by decide +kernel)) rfl, gG_mem (List.mem_of_getElem? (i := 816) (by decide +kernel)) rfl, gG_mem (List.mem_of_getElem? (i := 817) (by decide +kernel)) rfl, gG_mem (List.mem_of_getElem? (i := 59) (by decide +kernel)) rfl⟩
theorem wL_101 : Cond.methodLink RL 101 yX5_bestRound ∈ gG ∧ Cond.instanceMethod yX5_bestRound ∈ gG ∧ Cond.selects RX5 yX5_bestRound yX5_bestRound ∈ gG ∧ Cond.initialized (yX5_bestRound).cls ∈ gG := ⟨gG_mem (List.mem_of_getElem? (i := 827) (by decide +kernel)) rfl, gG_mem (List.mem_of_getElem? (i := 828) (by decide +kernel)) rfl, gG_mem (List.mem_of_getElem? (i := 829) (by decide +kernel)) rfl, gG_mem (List.mem_of_getElem? (i := 59) (by decide +kernel)) rfl⟩
theorem wL_104 : Cond.methodLink RL 104 yX5_save ∈ gG ∧ Cond.instanceMethod yX5_save ∈ gG ∧ Cond.selects RX5 yX5_save yX5_save ∈ gG ∧ Cond.initialized (yX5_save).cls ∈ gG := ⟨gG_mem (List.mem_of_getElem? (i := 846) (by decide +kernel)) rfl, gG_mem (List.mem_of_getElem? (i := 847) (by decide +kernel)) rfl, gG_mem (List.mem_of_getElem? (i := 848) (by decide +kernel)) rfl, gG_mem (List.mem_of_getElem? (i := 59) (by decide +kernel)) rfl⟩
theorem wL_107 : Cond.methodLink RL 107 yX5_restore ∈ gG ∧ Cond.instanceMethod yX5_restore ∈ gG ∧ Cond.selects RX5 yX5_restore yX5_restore ∈ gG ∧ Cond.initialized (yX5_restore).cls ∈ gG := ⟨gG_mem (List.mem_of_getElem? (i := 856) (by decide +kernel)) rfl, gG_mem (List.mem_of_getElem? (i := 857) (by decide +kernel)) rfl, gG_mem (List.mem_of_getElem? (i := 858) (by decide +kernel)) rfl, gG_mem (List.mem_of_getElem? (i := 59) (by decide +kernel)) rfl⟩
theorem wL_190 : Cond.methodLink RL 190 yL_call ∈ gG ∧ Cond.static yL_call ∈ gG ∧ Cond.initialized (yL_call).cls ∈ gG := ⟨gG_mem (List.mem_of_getElem? (i := 245) (by decide +kernel)) rfl, gG_mem (List.mem_of_getElem? (i := 246) (by decide +kernel)) rfl, gG_mem (List.mem_of_getElem? (i := 58) (by decide +kernel)) rfl⟩
theorem wL_213 : Cond.methodLink RL 213 yL_cell ∈ gG ∧ Cond.static yL_cell ∈ gG ∧ Cond.initialized (yL_cell).cls ∈ gG := ⟨gG_mem (List.mem_of_getElem? (i := 860) (by decide +kernel)) rfl, gG_mem (List.mem_of_getElem? (i := 861) (by decide +kernel)) rfl, gG_mem (List.mem_of_getElem? (i := 58) (by decide +kernel)) rfl⟩
theorem wL_217 : Cond.methodLink RL 217 yL_act ∈ gG ∧ Cond.static yL_act ∈ gG ∧ Cond.initialized (yL_act).cls ∈ gG := ⟨gG_mem (List.mem_of_getElem? (i := 934) (by decide +kernel)) rfl, gG_mem (List.mem_of_getElem? (i := 935) (by decide +kernel)) rfl, gG_mem (List.mem_of_getElem? (i := 58) (by decide +kernel)) rfl⟩
theorem wL_221 : Cond.methodLink RL 221 yL_refuses ∈ gG ∧ Cond.static yL_refuses ∈ gG ∧ Cond.initialized (yL_refuses).cls ∈ gG := ⟨gG_mem (List.mem_of_getElem? (i := 865) (by decide +kernel)) rfl, gG_mem (List.mem_of_getElem? (i := 866) (by decide +kernel)) rfl, gG_mem (List.mem_of_getElem? (i := 58) (by decide +kernel)) rfl⟩
theorem wL_225 : Cond.methodLink RL 225 yL_alike ∈ gG ∧ Cond.static yL_alike ∈ gG ∧ Cond.initialized (yL_alike).cls ∈ gG := ⟨gG_mem (List.mem_of_getElem? (i := 937) (by decide +kernel)) rfl, gG_mem (List.mem_of_getElem? (i := 938) (by decide +kernel)) rfl, gG_mem (List.mem_of_getElem? (i := 58) (by decide +kernel)) rfl⟩
theorem wL_229 : Cond.methodLink RL 229 yL_holds ∈ gG ∧ Cond.static yL_holds ∈ gG ∧ Cond.initialized (yL_holds).cls ∈ gG := ⟨gG_mem (List.mem_of_getElem? (i := 931) (by decide +kernel)) rfl, gG_mem (List.mem_of_getElem? (i := 932) (by decide +kernel)) rfl, gG_mem (List.mem_of_getElem? (i := 58) (by decide +kernel)) rfl⟩
theorem wL_232 : Cond.methodLink RL 232 yL_goesOn ∈ gG ∧ Cond.static yL_goesOn ∈ gG ∧ Cond.initialized (yL_goesOn).cls ∈ gG := ⟨gG_mem (List.mem_of_getElem? (i := 940) (by decide +kernel)) rfl, gG_mem (List.mem_of_getElem? (i := 941) (by decide +kernel)) rfl, gG_mem (List.mem_of_getElem? (i := 58) (by decide +kernel)) rfl⟩
theorem wL_235 : Cond.methodLink RL 235 yL_best ∈ gG ∧ Cond.static yL_best ∈ gG ∧ Cond.initialized (yL_best).cls ∈ gG := ⟨gG_mem (List.mem_of_getElem? (i := 952) (by decide +kernel)) rfl, gG_mem (List.mem_of_getElem? (i := 953) (by decide +kernel)) rfl, gG_mem (List.mem_of_getElem? (i := 58) (by decide +kernel)) rfl⟩
theorem wL_238 : Cond.methodLink RL 238 yL_thrown ∈ gG ∧ Cond.static yL_thrown ∈ gG ∧ Cond.initialized (yL_thrown).cls ∈ gG := ⟨gG_mem (List.mem_of_getElem? (i := 949) (by decide +kernel)) rfl, gG_mem (List.mem_of_getElem? (i := 950) (by decide +kernel)) rfl, gG_mem (List.mem_of_getElem? (i := 58) (by decide +kernel)) rfl⟩
theorem wL_242 : Cond.methodLink RL 242 yL_waits ∈ gG ∧ Cond.static yL_waits ∈ gG ∧ Cond.initialized (yL_waits).cls ∈ gG := ⟨gG_mem (List.mem_of_getElem? (i := 943) (by decide +kernel)) rfl, gG_mem (List.mem_of_getElem? (i := 944) (by decide +kernel)) rfl, gG_mem (List.mem_of_getElem? (i := 58) (by decide +kernel)) rfl⟩
theorem wL_245 : Cond.methodLink RL 245 yL_undoes ∈ gG ∧ Cond.static yL_undoes ∈ gG ∧ Cond.initialized (yL_undoes).cls ∈ gG := ⟨gG_mem (List.mem_of_getElem? (i := 946) (by decide +kernel)) rfl, gG_mem (List.mem_of_getElem? (i := 947) (by decide +kernel)) rfl, gG_mem (List.mem_of_getElem? (i := 58) (by decide +kernel)) rfl⟩
theorem wL_248 : Cond.methodLink RL 248 yL_isOrder ∈ gG ∧ Cond.static yL_isOrder ∈ gG ∧ Cond.initialized (yL_isOrder).cls ∈ gG := ⟨gG_mem (List.mem_of_getElem? (i := 955) (by decide +kernel)) rfl, gG_mem (List.mem_of_getElem? (i := 956) (by decide +kernel)) rfl, gG_mem (List.mem_of_getElem? (i := 58) (by decide +kernel)) rfl⟩
theorem wX5_56 : Cond.methodLinkNest RX5 56 yX4_add "LoafRounds" ∈ gN ∧ Cond.instanceMethod yX4_add ∈ gG ∧ Cond.selects RX4 yX4_add yX4_add ∈ gG ∧ Cond.initialized (yX4_add).cls ∈ gG := ⟨gN_mem (List.mem_of_getElem? (i := 350) (by decide +kernel)) rfl, gG_mem (List.mem_of_getElem? (i := 352) (by decide +kernel)) rfl, gG_mem (List.mem_of_getElem? (i := 2) (by decide +kernel)) rfl, gG_mem (List.mem_of_getElem? (i := 60) (by decide +kernel)) rfl⟩
theorem wX5_64 : Cond.methodLinkNest RX5 64 yX4_firstError "LoafRounds" ∈ gN ∧ Cond.instanceMethod yX4_firstError ∈ gG ∧ Cond.selects RX4 yX4_firstError yX4_firstError ∈ gG ∧ Cond.initialized (yX4_firstError).cls ∈ gG := ⟨gN_mem (List.mem_of_getElem? (i := 363) (by decide +kernel)) rfl, gG_mem (List.mem_of_getElem? (i := 365) (by decide +kernel)) rfl, gG_mem (List.mem_of_getElem? (i := 3) (by decide +kernel)) rfl, gG_mem (List.mem_of_getElem? (i := 60) (by decide +kernel)) rfl⟩
theorem wX5_67 : Cond.methodLinkNest RX5 67 yX0_makeNew "LoafRounds" ∈ gN ∧ Cond.instanceMethod yX0_makeNew ∈ gG ∧ Cond.selects RX0 yX0_makeNew yX0_makeNew ∈ gG ∧ Cond.initialized (yX0_makeNew).cls ∈ gG := ⟨gN_mem (List.mem_of_getElem? (i := 442) (by decide +kernel)) rfl, gG_mem (List.mem_of_getElem? (i := 161) (by decide +kernel)) rfl, gG_mem (List.mem_of_getElem? (i := 0) (by decide +kernel)) rfl, gG_mem (List.mem_of_getElem? (i := 61) (by decide +kernel)) rfl⟩
theorem wX5_70 : Cond.methodLinkNest RX5 70 yX2_forgetAll "LoafRounds" ∈ gN ∧ Cond.instanceMethod yX2_forgetAll ∈ gG ∧ Cond.selects RX2 yX2_forgetAll yX2_forgetAll ∈ gG ∧ Cond.initialized (yX2_forgetAll).cls ∈ gG := ⟨gN_mem (List.mem_of_getElem? (i := 443) (by decide +kernel)) rfl, gG_mem (List.mem_of_getElem? (i := 445) (by decide +kernel)) rfl, gG_mem (List.mem_of_getElem? (i := 7) (by decide +kernel)) rfl, gG_mem (List.mem_of_getElem? (i := 64) (by decide +kernel)) rfl⟩
theorem wX5_73 : Cond.methodLinkNest RX5 73 yX4_doCommand "LoafRounds" ∈ gN ∧ Cond.instanceMethod yX4_doCommand ∈ gG ∧ Cond.selects RX4 yX4_doCommand yX4_doCommand ∈ gG ∧ Cond.initialized (yX4_doCommand).cls ∈ gG := ⟨gN_mem (List.mem_of_getElem? (i := 447) (by decide +kernel)) rfl, gG_mem (List.mem_of_getElem? (i := 449) (by decide +kernel)) rfl, gG_mem (List.mem_of_getElem? (i := 8) (by decide +kernel)) rfl, gG_mem (List.mem_of_getElem? (i := 60) (by decide +kernel)) rfl⟩
theorem wX5_77 : Cond.methodLinkNest RX5 77 yX4_formLength "LoafRounds" ∈ gN ∧ Cond.instanceMethod yX4_formLength ∈ gG ∧ Cond.selects RX4 yX4_formLength yX4_formLength ∈ gG ∧ Cond.initialized (yX4_formLength).cls ∈ gG := ⟨gN_mem (List.mem_of_getElem? (i := 599) (by decide +kernel)) rfl, gG_mem (List.mem_of_getElem? (i := 440) (by decide +kernel)) rfl, gG_mem (List.mem_of_getElem? (i := 6) (by decide +kernel)) rfl, gG_mem (List.mem_of_getElem? (i := 60) (by decide +kernel)) rfl⟩
theorem wX5_81 : Cond.methodLinkNest RX5 81 yX0_numberOf "LoafRounds" ∈ gN ∧ Cond.instanceMethod yX0_numberOf ∈ gG ∧ Cond.selects RX0 yX0_numberOf yX0_numberOf ∈ gG ∧ Cond.initialized (yX0_numberOf).cls ∈ gG := ⟨gN_mem (List.mem_of_getElem? (i := 607) (by decide +kernel)) rfl, gG_mem (List.mem_of_getElem? (i := 609) (by decide +kernel)) rfl, gG_mem (List.mem_of_getElem? (i := 37) (by decide +kernel)) rfl, gG_mem (List.mem_of_getElem? (i := 61) (by decide +kernel)) rfl⟩
theorem wX5_84 : Cond.methodLinkNest RX5 84 yX0_hasCustomer "LoafRounds" ∈ gN ∧ Cond.instanceMethod yX0_hasCustomer ∈ gG ∧ Cond.selects RX0 yX0_hasCustomer yX0_hasCustomer ∈ gG ∧ Cond.initialized (yX0_hasCustomer).cls ∈ gG := ⟨gN_mem (List.mem_of_getElem? (i := 631) (by decide +kernel)) rfl, gG_mem (List.mem_of_getElem? (i := 481) (by decide +kernel)) rfl, gG_mem (List.mem_of_getElem? (i := 12) (by decide +kernel)) rfl, gG_mem (List.mem_of_getElem? (i := 61) (by decide +kernel)) rfl⟩
theorem wX5_98 : Cond.methodLinkNest RX5 98 yX1_dueOn "LoafRounds" ∈ gN ∧ Cond.instanceMethod yX1_dueOn ∈ gG ∧ Cond.selects RX1 yX1_dueOn yX1_dueOn ∈ gG ∧ Cond.initialized (yX1_dueOn).cls ∈ gG := ⟨gN_mem (List.mem_of_getElem? (i := 651) (by decide +kernel)) rfl, gG_mem (List.mem_of_getElem? (i := 547) (by decide +kernel)) rfl, gG_mem (List.mem_of_getElem? (i := 26) (by decide +kernel)) rfl, gG_mem (List.mem_of_getElem? (i := 62) (by decide +kernel)) rfl⟩
theorem wX5_103 : Cond.methodLinkNest RX5 103 yX1_nextDueDay "LoafRounds" ∈ gN ∧ Cond.instanceMethod yX1_nextDueDay ∈ gG ∧ Cond.selects RX1 yX1_nextDueDay yX1_nextDueDay ∈ gG ∧ Cond.initialized (yX1_nextDueDay).cls ∈ gG := ⟨gN_mem (List.mem_of_getElem? (i := 652) (by decide +kernel)) rfl, gG_mem (List.mem_of_getElem? (i := 654) (by decide +kernel)) rfl, gG_mem (List.mem_of_getElem? (i := 41) (by decide +kernel)) rfl, gG_mem (List.mem_of_getElem? (i := 62) (by decide +kernel)) rfl⟩
theorem wX5_106 : Cond.methodLinkNest RX5 106 yX1_numberOf "LoafRounds" ∈ gN ∧ Cond.instanceMethod yX1_numberOf ∈ gG ∧ Cond.selects RX1 yX1_numberOf yX1_numberOf ∈ gG ∧ Cond.initialized (yX1_numberOf).cls ∈ gG := ⟨gN_mem (List.mem_of_getElem? (i := 657) (by decide +kernel)) rfl, gG_mem (List.mem_of_getElem? (i := 617) (by decide +kernel)) rfl, gG_mem (List.mem_of_getElem? (i := 39) (by decide +kernel)) rfl, gG_mem (List.mem_of_getElem? (i := 62) (by decide +kernel)) rfl⟩
theorem wX5_126 : Cond.methodLinkNest RX5 126 yX0_isShut "LoafRounds" ∈ gN ∧ Cond.instanceMethod yX0_isShut ∈ gG ∧ Cond.selects RX0 yX0_isShut yX0_isShut ∈ gG ∧ Cond.initialized (yX0_isShut).cls ∈ gG := ⟨gN_mem (List.mem_of_getElem? (i := 682) (by decide +kernel)) rfl, gG_mem (List.mem_of_getElem? (i := 519) (by decide +kernel)) rfl, gG_mem (List.mem_of_getElem? (i := 19) (by decide +kernel)) rfl, gG_mem (List.mem_of_getElem? (i := 61) (by decide +kernel)) rfl⟩
theorem wX5_139 : Cond.methodLinkNest RX5 139 yX1_dueDayByDay "LoafRounds" ∈ gN ∧ Cond.instanceMethod yX1_dueDayByDay ∈ gG ∧ Cond.selects RX1 yX1_dueDayByDay yX1_dueDayByDay ∈ gG ∧ Cond.initialized (yX1_dueDayByDay).cls ∈ gG := ⟨gN_mem (List.mem_of_getElem? (i := 875) (by decide +kernel)) rfl, gG_mem (List.mem_of_getElem? (i := 877) (by decide +kernel)) rfl, gG_mem (List.mem_of_getElem? (i := 52) (by decide +kernel)) rfl, gG_mem (List.mem_of_getElem? (i := 62) (by decide +kernel)) rfl⟩
theorem wX5_143 : Cond.methodLinkNest RX5 143 yX1_dueByWeeks "LoafRounds" ∈ gN ∧ Cond.instanceMethod yX1_dueByWeeks ∈ gG ∧ Cond.selects RX1 yX1_dueByWeeks yX1_dueByWeeks ∈ gG ∧ Cond.initialized (yX1_dueByWeeks).cls ∈ gG := ⟨gN_mem (List.mem_of_getElem? (i := 879) (by decide +kernel)) rfl, gG_mem (List.mem_of_getElem? (i := 881) (by decide +kernel)) rfl, gG_mem (List.mem_of_getElem? (i := 53) (by decide +kernel)) rfl, gG_mem (List.mem_of_getElem? (i := 62) (by decide +kernel)) rfl⟩
theorem wX5_153 : Cond.methodLinkNest RX5 153 yX2_takeBack "LoafRounds" ∈ gN ∧ Cond.instanceMethod yX2_takeBack ∈ gG ∧ Cond.selects RX2 yX2_takeBack yX2_takeBack ∈ gG ∧ Cond.initialized (yX2_takeBack).cls ∈ gG := ⟨gN_mem (List.mem_of_getElem? (i := 777) (by decide +kernel)) rfl, gG_mem (List.mem_of_getElem? (i := 779) (by decide +kernel)) rfl, gG_mem (List.mem_of_getElem? (i := 46) (by decide +kernel)) rfl, gG_mem (List.mem_of_getElem? (i := 64) (by decide +kernel)) rfl⟩
theorem wX5_157 : Cond.methodLinkNest RX5 157 yX0_reasonFor "LoafRounds" ∈ gN ∧ Cond.instanceMethod yX0_reasonFor ∈ gG ∧ Cond.selects RX0 yX0_reasonFor yX0_reasonFor ∈ gG ∧ Cond.initialized (yX0_reasonFor).cls ∈ gG := ⟨gN_mem (List.mem_of_getElem? (i := 788) (by decide +kernel)) rfl, gG_mem (List.mem_of_getElem? (i := 790) (by decide +kernel)) rfl, gG_mem (List.mem_of_getElem? (i := 47) (by decide +kernel)) rfl, gG_mem (List.mem_of_getElem? (i := 61) (by decide +kernel)) rfl⟩
theorem wX5_160 : Cond.methodLinkNest RX5 160 yX0_copyFrom "LoafRounds" ∈ gN ∧ Cond.instanceMethod yX0_copyFrom ∈ gG ∧ Cond.selects RX0 yX0_copyFrom yX0_copyFrom ∈ gG ∧ Cond.initialized (yX0_copyFrom).cls ∈ gG := ⟨gN_mem (List.mem_of_getElem? (i := 803) (by decide +kernel)) rfl, gG_mem (List.mem_of_getElem? (i := 719) (by decide +kernel)) rfl, gG_mem (List.mem_of_getElem? (i := 44) (by decide +kernel)) rfl, gG_mem (List.mem_of_getElem? (i := 61) (by decide +kernel)) rfl⟩
theorem wX5_164 : Cond.methodLinkNest RX5 164 yX0_deliver "LoafRounds" ∈ gN ∧ Cond.instanceMethod yX0_deliver ∈ gG ∧ Cond.selects RX0 yX0_deliver yX0_deliver ∈ gG ∧ Cond.initialized (yX0_deliver).cls ∈ gG := ⟨gN_mem (List.mem_of_getElem? (i := 804) (by decide +kernel)) rfl, gG_mem (List.mem_of_getElem? (i := 535) (by decide +kernel)) rfl, gG_mem (List.mem_of_getElem? (i := 23) (by decide +kernel)) rfl, gG_mem (List.mem_of_getElem? (i := 61) (by decide +kernel)) rfl⟩
theorem wX5_170 : Cond.methodLinkNest RX5 170 yX0_dueInOpenStreets "LoafRounds" ∈ gN ∧ Cond.instanceMethod yX0_dueInOpenStreets ∈ gG ∧ Cond.selects RX0 yX0_dueInOpenStreets yX0_dueInOpenStreets ∈ gG ∧ Cond.initialized (yX0_dueInOpenStreets).cls ∈ gG := ⟨gN_mem (List.mem_of_getElem? (i := 819) (by decide +kernel)) rfl, gG_mem (List.mem_of_getElem? (i := 821) (by decide +kernel)) rfl, gG_mem (List.mem_of_getElem? (i := 49) (by decide +kernel)) rfl, gG_mem (List.mem_of_getElem? (i := 61) (by decide +kernel)) rfl⟩
theorem wX5_181 : Cond.methodLinkNest RX5 181 yX0_takeOrder "LoafRounds" ∈ gN ∧ Cond.instanceMethod yX0_takeOrder ∈ gG ∧ Cond.selects RX0 yX0_takeOrder yX0_takeOrder ∈ gG ∧ Cond.initialized (yX0_takeOrder).cls ∈ gG := ⟨gN_mem (List.mem_of_getElem? (i := 834) (by decide +kernel)) rfl, gG_mem (List.mem_of_getElem? (i := 836) (by decide +kernel)) rfl, gG_mem (List.mem_of_getElem? (i := 50) (by decide +kernel)) rfl, gG_mem (List.mem_of_getElem? (i := 61) (by decide +kernel)) rfl⟩
theorem wX5_185 : Cond.methodLinkNest RX5 185 yX0_sumOf "LoafRounds" ∈ gN ∧ Cond.instanceMethod yX0_sumOf ∈ gG ∧ Cond.selects RX0 yX0_sumOf yX0_sumOf ∈ gG ∧ Cond.initialized (yX0_sumOf).cls ∈ gG := ⟨gN_mem (List.mem_of_getElem? (i := 838) (by decide +kernel)) rfl, gG_mem (List.mem_of_getElem? (i := 613) (by decide +kernel)) rfl, gG_mem (List.mem_of_getElem? (i := 38) (by decide +kernel)) rfl, gG_mem (List.mem_of_getElem? (i := 61) (by decide +kernel)) rfl⟩
theorem wX5_188 : Cond.methodLinkNest RX5 188 yX0_orderAsNumber "LoafRounds" ∈ gN ∧ Cond.instanceMethod yX0_orderAsNumber ∈ gG ∧ Cond.selects RX0 yX0_orderAsNumber yX0_orderAsNumber ∈ gG ∧ Cond.initialized (yX0_orderAsNumber).cls ∈ gG := ⟨gN_mem (List.mem_of_getElem? (i := 839) (by decide +kernel)) rfl, gG_mem (List.mem_of_getElem? (i := 841) (by decide +kernel)) rfl, gG_mem (List.mem_of_getElem? (i := 51) (by decide +kernel)) rfl, gG_mem (List.mem_of_getElem? (i := 61) (by decide +kernel)) rfl⟩
theorem wX5_210 : Cond.methodLinkNest RX5 210 yX0_refusalOf "LoafRounds" ∈ gN ∧ Cond.instanceMethod yX0_refusalOf ∈ gG ∧ Cond.selects RX0 yX0_refusalOf yX0_refusalOf ∈ gG ∧ Cond.initialized (yX0_refusalOf).cls ∈ gG := ⟨gN_mem (List.mem_of_getElem? (i := 709) (by decide +kernel)) rfl, gG_mem (List.mem_of_getElem? (i := 461) (by decide +kernel)) rfl, gG_mem (List.mem_of_getElem? (i := 11) (by decide +kernel)) rfl, gG_mem (List.mem_of_getElem? (i := 61) (by decide +kernel)) rfl⟩
theorem wX5_226 : Cond.methodLinkNest RX5 226 yX2_keep "LoafRounds" ∈ gN ∧ Cond.instanceMethod yX2_keep ∈ gG ∧ Cond.selects RX2 yX2_keep yX2_keep ∈ gG ∧ Cond.initialized (yX2_keep).cls ∈ gG := ⟨gN_mem (List.mem_of_getElem? (i := 713) (by decide +kernel)) rfl, gG_mem (List.mem_of_getElem? (i := 715) (by decide +kernel)) rfl, gG_mem (List.mem_of_getElem? (i := 43) (by decide +kernel)) rfl, gG_mem (List.mem_of_getElem? (i := 64) (by decide +kernel)) rfl⟩
theorem wX5_229 : Cond.methodLinkNest RX5 229 yX0_perform "LoafRounds" ∈ gN ∧ Cond.instanceMethod yX0_perform ∈ gG ∧ Cond.selects RX0 yX0_perform yX0_perform ∈ gG ∧ Cond.initialized (yX0_perform).cls ∈ gG := ⟨gN_mem (List.mem_of_getElem? (i := 727) (by decide +kernel)) rfl, gG_mem (List.mem_of_getElem? (i := 457) (by decide +kernel)) rfl, gG_mem (List.mem_of_getElem? (i := 10) (by decide +kernel)) rfl, gG_mem (List.mem_of_getElem? (i := 61) (by decide +kernel)) rfl⟩
theorem wX5_233 : Cond.methodLinkNest RX5 233 yX0_loavesGot "LoafRounds" ∈ gN ∧ Cond.instanceMethod yX0_loavesGot ∈ gG ∧ Cond.selects RX0 yX0_loavesGot yX0_loavesGot ∈ gG ∧ Cond.initialized (yX0_loavesGot).cls ∈ gG := ⟨gN_mem (List.mem_of_getElem? (i := 912) (by decide +kernel)) rfl, gG_mem (List.mem_of_getElem? (i := 914) (by decide +kernel)) rfl, gG_mem (List.mem_of_getElem? (i := 56) (by decide +kernel)) rfl, gG_mem (List.mem_of_getElem? (i := 61) (by decide +kernel)) rfl⟩
theorem wX0_63 : Cond.methodLinkNest RX0 63 yX1_copyFrom "LoafRounds" ∈ gN ∧ Cond.instanceMethod yX1_copyFrom ∈ gG ∧ Cond.selects RX1 yX1_copyFrom yX1_copyFrom ∈ gG ∧ Cond.initialized (yX1_copyFrom).cls ∈ gG := ⟨gN_mem (List.mem_of_getElem? (i := 721) (by decide +kernel)) rfl, gG_mem (List.mem_of_getElem? (i := 723) (by decide +kernel)) rfl, gG_mem (List.mem_of_getElem? (i := 45) (by decide +kernel)) rfl, gG_mem (List.mem_of_getElem? (i := 62) (by decide +kernel)) rfl⟩
theorem wX0_75 : Cond.methodLinkNest RX0 75 yX1_numberOf "LoafRounds" ∈ gN ∧ Cond.instanceMethod yX1_numberOf ∈ gG ∧ Cond.selects RX1 yX1_numberOf yX1_numberOf ∈ gG ∧ Cond.initialized (yX1_numberOf).cls ∈ gG := ⟨gN_mem (List.mem_of_getElem? (i := 615) (by decide +kernel)) rfl, gG_mem (List.mem_of_getElem? (i := 617) (by decide +kernel)) rfl, gG_mem (List.mem_of_getElem? (i := 39) (by decide +kernel)) rfl, gG_mem (List.mem_of_getElem? (i := 62) (by decide +kernel)) rfl⟩
theorem wX0_78 : Cond.methodLinkNest RX0 78 yX1_dueOn "LoafRounds" ∈ gN ∧ Cond.instanceMethod yX1_dueOn ∈ gG ∧ Cond.selects RX1 yX1_dueOn yX1_dueOn ∈ gG ∧ Cond.initialized (yX1_dueOn).cls ∈ gG := ⟨gN_mem (List.mem_of_getElem? (i := 545) (by decide +kernel)) rfl, gG_mem (List.mem_of_getElem? (i := 547) (by decide +kernel)) rfl, gG_mem (List.mem_of_getElem? (i := 26) (by decide +kernel)) rfl, gG_mem (List.mem_of_getElem? (i := 62) (by decide +kernel)) rfl⟩
theorem wX0_84 : Cond.methodLinkNest RX0 84 yX5_weekdayOf "LoafRounds" ∈ gN ∧ Cond.static yX5_weekdayOf ∈ gG ∧ Cond.initialized (yX5_weekdayOf).cls ∈ gG := ⟨gN_mem (List.mem_of_getElem? (i := 571) (by decide +kernel)) rfl, gG_mem (List.mem_of_getElem? (i := 554) (by decide +kernel)) rfl, gG_mem (List.mem_of_getElem? (i := 59) (by decide +kernel)) rfl⟩
theorem wX0_91 : Cond.methodLinkNest RX0 91 yX5_isWithin "LoafRounds" ∈ gN ∧ Cond.static yX5_isWithin ∈ gG ∧ Cond.initialized (yX5_isWithin).cls ∈ gG := ⟨gN_mem (List.mem_of_getElem? (i := 467) (by decide +kernel)) rfl, gG_mem (List.mem_of_getElem? (i := 258) (by decide +kernel)) rfl, gG_mem (List.mem_of_getElem? (i := 59) (by decide +kernel)) rfl⟩
theorem wX0_95 : Cond.methodLinkNest RX0 95 yX5_isStreet "LoafRounds" ∈ gN ∧ Cond.static yX5_isStreet ∈ gG ∧ Cond.initialized (yX5_isStreet).cls ∈ gG := ⟨gN_mem (List.mem_of_getElem? (i := 463) (by decide +kernel)) rfl, gG_mem (List.mem_of_getElem? (i := 464) (by decide +kernel)) rfl, gG_mem (List.mem_of_getElem? (i := 59) (by decide +kernel)) rfl⟩
theorem wX0_107 : Cond.methodLinkNest RX0 107 yX5_isWeekday "LoafRounds" ∈ gN ∧ Cond.static yX5_isWeekday ∈ gG ∧ Cond.initialized (yX5_isWeekday).cls ∈ gG := ⟨gN_mem (List.mem_of_getElem? (i := 483) (by decide +kernel)) rfl, gG_mem (List.mem_of_getElem? (i := 484) (by decide +kernel)) rfl, gG_mem (List.mem_of_getElem? (i := 59) (by decide +kernel)) rfl⟩
theorem wX0_113 : Cond.methodLinkNest RX0 113 yX5_isSetting "LoafRounds" ∈ gN ∧ Cond.static yX5_isSetting ∈ gG ∧ Cond.initialized (yX5_isSetting).cls ∈ gG := ⟨gN_mem (List.mem_of_getElem? (i := 486) (by decide +kernel)) rfl, gG_mem (List.mem_of_getElem? (i := 487) (by decide +kernel)) rfl, gG_mem (List.mem_of_getElem? (i := 59) (by decide +kernel)) rfl⟩
theorem wX0_145 : Cond.methodLinkNest RX0 145 yX1_putLoaves "LoafRounds" ∈ gN ∧ Cond.instanceMethod yX1_putLoaves ∈ gG ∧ Cond.selects RX1 yX1_putLoaves yX1_putLoaves ∈ gG ∧ Cond.initialized (yX1_putLoaves).cls ∈ gG := ⟨gN_mem (List.mem_of_getElem? (i := 501) (by decide +kernel)) rfl, gG_mem (List.mem_of_getElem? (i := 503) (by decide +kernel)) rfl, gG_mem (List.mem_of_getElem? (i := 15) (by decide +kernel)) rfl, gG_mem (List.mem_of_getElem? (i := 62) (by decide +kernel)) rfl⟩
theorem wX0_148 : Cond.methodLinkNest RX0 148 yX1_addHoliday "LoafRounds" ∈ gN ∧ Cond.instanceMethod yX1_addHoliday ∈ gG ∧ Cond.selects RX1 yX1_addHoliday yX1_addHoliday ∈ gG ∧ Cond.initialized (yX1_addHoliday).cls ∈ gG := ⟨gN_mem (List.mem_of_getElem? (i := 505) (by decide +kernel)) rfl, gG_mem (List.mem_of_getElem? (i := 507) (by decide +kernel)) rfl, gG_mem (List.mem_of_getElem? (i := 16) (by decide +kernel)) rfl, gG_mem (List.mem_of_getElem? (i := 62) (by decide +kernel)) rfl⟩
theorem wX0_151 : Cond.methodLinkNest RX0 151 yX1_dropHoliday "LoafRounds" ∈ gN ∧ Cond.instanceMethod yX1_dropHoliday ∈ gG ∧ Cond.selects RX1 yX1_dropHoliday yX1_dropHoliday ∈ gG ∧ Cond.initialized (yX1_dropHoliday).cls ∈ gG := ⟨gN_mem (List.mem_of_getElem? (i := 509) (by decide +kernel)) rfl, gG_mem (List.mem_of_getElem? (i := 511) (by decide +kernel)) rfl, gG_mem (List.mem_of_getElem? (i := 17) (by decide +kernel)) rfl, gG_mem (List.mem_of_getElem? (i := 62) (by decide +kernel)) rfl⟩
theorem wX0_167 : Cond.methodLinkNest RX0 167 yX1_start "LoafRounds" ∈ gN ∧ Cond.instanceMethod yX1_start ∈ gG ∧ Cond.selects RX1 yX1_start yX1_start ∈ gG ∧ Cond.initialized (yX1_start).cls ∈ gG := ⟨gN_mem (List.mem_of_getElem? (i := 497) (by decide +kernel)) rfl, gG_mem (List.mem_of_getElem? (i := 499) (by decide +kernel)) rfl, gG_mem (List.mem_of_getElem? (i := 14) (by decide +kernel)) rfl, gG_mem (List.mem_of_getElem? (i := 62) (by decide +kernel)) rfl⟩
theorem wX0_198 : Cond.methodLinkNest RX0 198 yX1_receive "LoafRounds" ∈ gN ∧ Cond.instanceMethod yX1_receive ∈ gG ∧ Cond.selects RX1 yX1_receive yX1_receive ∈ gG ∧ Cond.initialized (yX1_receive).cls ∈ gG := ⟨gN_mem (List.mem_of_getElem? (i := 572) (by decide +kernel)) rfl, gG_mem (List.mem_of_getElem? (i := 574) (by decide +kernel)) rfl, gG_mem (List.mem_of_getElem? (i := 31) (by decide +kernel)) rfl, gG_mem (List.mem_of_getElem? (i := 62) (by decide +kernel)) rfl⟩
theorem wX0_201 : Cond.methodLinkNest RX0 201 yX1_isAwayOn "LoafRounds" ∈ gN ∧ Cond.instanceMethod yX1_isAwayOn ∈ gG ∧ Cond.selects RX1 yX1_isAwayOn yX1_isAwayOn ∈ gG ∧ Cond.initialized (yX1_isAwayOn).cls ∈ gG := ⟨gN_mem (List.mem_of_getElem? (i := 580) (by decide +kernel)) rfl, gG_mem (List.mem_of_getElem? (i := 582) (by decide +kernel)) rfl, gG_mem (List.mem_of_getElem? (i := 33) (by decide +kernel)) rfl, gG_mem (List.mem_of_getElem? (i := 62) (by decide +kernel)) rfl⟩
theorem wX0_207 : Cond.methodLinkNest RX0 207 yX1_receiveForCredit "LoafRounds" ∈ gN ∧ Cond.instanceMethod yX1_receiveForCredit ∈ gG ∧ Cond.selects RX1 yX1_receiveForCredit yX1_receiveForCredit ∈ gG ∧ Cond.initialized (yX1_receiveForCredit).cls ∈ gG := ⟨gN_mem (List.mem_of_getElem? (i := 584) (by decide +kernel)) rfl, gG_mem (List.mem_of_getElem? (i := 586) (by decide +kernel)) rfl, gG_mem (List.mem_of_getElem? (i := 34) (by decide +kernel)) rfl, gG_mem (List.mem_of_getElem? (i := 62) (by decide +kernel)) rfl⟩
theorem wX0_211 : Cond.methodLinkNest RX0 211 yX1_cutCredit "LoafRounds" ∈ gN ∧ Cond.instanceMethod yX1_cutCredit ∈ gG ∧ Cond.selects RX1 yX1_cutCredit yX1_cutCredit ∈ gG ∧ Cond.initialized (yX1_cutCredit).cls ∈ gG := ⟨gN_mem (List.mem_of_getElem? (i := 592) (by decide +kernel)) rfl, gG_mem (List.mem_of_getElem? (i := 594) (by decide +kernel)) rfl, gG_mem (List.mem_of_getElem? (i := 36) (by decide +kernel)) rfl, gG_mem (List.mem_of_getElem? (i := 62) (by decide +kernel)) rfl⟩
theorem wX1_60 : Cond.methodLinkNest RX1 60 yX5_weekdayOf "LoafRounds" ∈ gN ∧ Cond.static yX5_weekdayOf ∈ gG ∧ Cond.initialized (yX5_weekdayOf).cls ∈ gG := ⟨gN_mem (List.mem_of_getElem? (i := 553) (by decide +kernel)) rfl, gG_mem (List.mem_of_getElem? (i := 554) (by decide +kernel)) rfl, gG_mem (List.mem_of_getElem? (i := 59) (by decide +kernel)) rfl⟩
theorem wX2_25 : Cond.methodLinkNest RX2 25 yX0_copyFrom "LoafRounds" ∈ gN ∧ Cond.instanceMethod yX0_copyFrom ∈ gG ∧ Cond.selects RX0 yX0_copyFrom yX0_copyFrom ∈ gG ∧ Cond.initialized (yX0_copyFrom).cls ∈ gG := ⟨gN_mem (List.mem_of_getElem? (i := 717) (by decide +kernel)) rfl, gG_mem (List.mem_of_getElem? (i := 719) (by decide +kernel)) rfl, gG_mem (List.mem_of_getElem? (i := 44) (by decide +kernel)) rfl, gG_mem (List.mem_of_getElem? (i := 61) (by decide +kernel)) rfl⟩
theorem wX4_67 : Cond.methodLinkNest RX4 67 yX0_perform "LoafRounds" ∈ gN ∧ Cond.instanceMethod yX0_perform ∈ gG ∧ Cond.selects RX0 yX0_perform yX0_perform ∈ gG ∧ Cond.initialized (yX0_perform).cls ∈ gG := ⟨gN_mem (List.mem_of_getElem? (i := 455) (by decide +kernel)) rfl, gG_mem (List.mem_of_getElem? (i := 457) (by decide +kernel)) rfl, gG_mem (List.mem_of_getElem? (i := 10) (by decide +kernel)) rfl, gG_mem (List.mem_of_getElem? (i := 61) (by decide +kernel)) rfl⟩
