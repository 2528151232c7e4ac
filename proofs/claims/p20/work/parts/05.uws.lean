/-! fields and arrays of the pure machine -/
/-- class ci's number, its table of fields and how many -/
theorem pm_uws : ∀ (ci : Nat) (C : String) (T : u_T) (N : Nat), pm_cl[ci]? = some (C, T, N) → (∀ w ∈ u_ws C T N, w ∈ pm_all) ∧ (∀ k, k < N → parseFieldDescriptor (T k).2.2.1 = some (pm_ty ci k)) ∧ (∀ a, a < N → ∀ b, b < N → a ≠ b → (T a).2.1 ≠ (T b).2.1) := by
  intro ci C T N h
  match ci, h with
  | 0, h => cases h; exact ⟨by decide +kernel, tyX0_ok, nmX0⟩
  | 1, h => cases h; exact ⟨by decide +kernel, tyX1_ok, nmX1⟩
  | 2, h => cases h; exact ⟨by decide +kernel, tyX2_ok, nmX2⟩
  | 3, h => cases h; exact ⟨by decide +kernel, tyX3_ok, nmX3⟩
  | 4, h => cases h; exact ⟨by decide +kernel, tyX4_ok, nmX4⟩
  | 5, h => cases h; exact ⟨by decide +kernel, tyX5_ok, nmX5⟩
  | 6, h => cases h; exact ⟨by decide +kernel, tyX6_ok, nmX6⟩
  | 7, h => cases h; exact ⟨by decide +kernel, tyX7_ok, nmX7⟩
  | 8, h => cases h; exact ⟨by decide +kernel, tyX8_ok, nmX8⟩
  | 9, h => cases h; exact ⟨by decide +kernel, tyX9_ok, nmX9⟩
  | 10, h => cases h; exact ⟨by decide +kernel, tyX10_ok, nmX10⟩
  | 11, h => cases h; exact ⟨by decide +kernel, tyX11_ok, nmX11⟩
  | 12, h => cases h; exact ⟨by decide +kernel, tyX12_ok, nmX12⟩
  | k + 13, h => simp [pm_cl] at h
