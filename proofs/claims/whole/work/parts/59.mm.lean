theorem b01 {r : Int32} {P : Prop} (h : (r = 0 ∨ r = 1) ∧ (r = 1 ↔ P)) : (r.toInt = 1 ∧ P) ∨ (r.toInt = 0 ∧ ¬ P) := by
  rcases h.1 with h1 | h1
  · exact Or.inr ⟨by rw [h1]; rfl, fun h2 => absurd ((h.2.mpr h2).symm.trans h1) (by decide)⟩
  · exact Or.inl ⟨by rw [h1]; rfl, h.2.mp h1⟩
