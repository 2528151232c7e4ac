/-! digits of a trial's number -/
theorem pm_w11 {a s : Int} (h : 0 ≤ s ∧ s ≤ 8) : (100 * a + 11 * s) % 10 = s ∧ (100 * a + 11 * s) / 10 % 10 = s ∧ (100 * a + 11 * s) / 100 = a := by
  have : s = 0 ∨ s = 1 ∨ s = 2 ∨ s = 3 ∨ s = 4 ∨ s = 5 ∨ s = 6 ∨ s = 7 ∨ s = 8 := by omega
  rcases this with rfl | rfl | rfl | rfl | rfl | rfl | rfl | rfl | rfl
  all_goals (refine ⟨?_, ?_, ?_⟩ <;> omega)
theorem pm_wvf {a v f : Int} (ha : 0 ≤ a ∧ a ≤ 9) (hv : 0 ≤ v ∧ v ≤ 8) (hf : 0 ≤ f ∧ f ≤ 8) : 0 ≤ 100 * a + 10 * v + f ∧ 100 * a + 10 * v + f ≤ 999 ∧ (100 * a + 10 * v + f) % 10 = f ∧ (100 * a + 10 * v + f) / 10 % 10 = v := by
  have : v = 0 ∨ v = 1 ∨ v = 2 ∨ v = 3 ∨ v = 4 ∨ v = 5 ∨ v = 6 ∨ v = 7 ∨ v = 8 := by omega
  rcases this with rfl | rfl | rfl | rfl | rfl | rfl | rfl | rfl | rfl
  all_goals (refine ⟨?_, ?_, ?_, ?_⟩ <;> omega)
