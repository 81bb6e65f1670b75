/-! a new book -/
theorem g_mk : gMkOk := fun b m => by
  obtain ⟨o, h1, h2, -⟩ := c_make b m
  exact ⟨o, h1, h2⟩
