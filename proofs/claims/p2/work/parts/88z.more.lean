/-! digits of a trial's number -/
theorem pm_w11 {a s : Int} (h : 0 ≤ s ∧ s ≤ 8) : (100 * a + 11 * s) % 10 = s ∧ (100 * a + 11 * s) / 10 % 10 = s ∧ (100 * a + 11 * s) / 100 = a := by
  have : s = 0 ∨ s = 1 ∨ s = 2 ∨ s = 3 ∨ s = 4 ∨ s = 5 ∨ s = 6 ∨ s = 7 ∨ s = 8 := by omega
  rcases this with rfl | rfl | rfl | rfl | rfl | rfl | rfl | rfl | rfl
  all_goals (refine ⟨?_, ?_, ?_⟩ <;> omega)
