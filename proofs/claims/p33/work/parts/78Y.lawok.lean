/-! the law comes to true, over states -/
theorem law_ok : ∀ (L : Nat) (xs : Nat → Int32), L ≤ 260 → ∃ o : gS × Int32, aL_lawB L xs ((t0, t0), 0) = some o ∧ o.2 = 1 := by
  sorry
