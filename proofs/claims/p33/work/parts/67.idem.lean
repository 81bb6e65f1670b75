/-! the reference's functions do what the spec says -/
theorem sC_id {D : gB} {c j : Nat} : sC D c j (D.2 c j) = D := by
  unfold sC
  have e : up D.2 c (up (D.2 c) j (D.2 c j)) = D.2 := by
    funext c'
    unfold up
    split
    · rename_i q
      subst q
      funext j'
      split
      · rename_i q
        rw [q]
      · rfl
    · rfl
  rw [e]
theorem sH_id {D : gB} {i : Nat} : sH D i (D.1 i) = D := by
  unfold sH
  have e : up D.1 i (D.1 i) = D.1 := by
    funext i'
    unfold up
    split
    · rename_i q
      rw [q]
    · rfl
  rw [e]