/-! ===== p1's owed statement ===== -/
theorem xowed : xOwed := fun scr hs => by
  obtain ⟨F, h', r1, r2, r3⟩ := xowed6 scr hs
  exact ⟨F, h', r1, by omega, by omega⟩
