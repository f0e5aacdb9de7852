theorem inv_0 : Inv z_0 := by
  have ec : cN z_0 = 0 := rfl
  refine ⟨⟨?_, Or.inl ec, by rw [ec]; decide, ?_⟩, ?_, ?_, ?_, ?_, ?_, ?_, ?_, rfl, rfl⟩
  · rw [ec]; rfl
  · rw [ec]; rfl
  · intro g hg
    omega
  · intro h hh
    omega
  · intro h hh
    omega
  · intro h hh
    omega
  · intro h hh
    omega
  · exact ⟨0, by decide, rfl, rfl, fun k hk => by omega⟩
  · intro k hk
    refine Or.inl ⟨rfl, ?_, rfl⟩
    have : k = 0 ∨ k = 1 ∨ k = 2 ∨ k = 3 := by omega
    rcases this with rfl | rfl | rfl | rfl <;> rfl
