/-! THE LAW'S INVARIANT with the weights' two rows and the answers' data -/
theorem wo.ff {V V' : pm_M} {cs : List Nat} {fs : List (Nat × Nat)} (h : wo V) (hf : pm_ff cs fs V V') (hc : (cs.contains 73 || fs.contains (73, 13) || fs.contains (73, 15)) = false) : wo V' := by
  simp only [Bool.or_eq_false_iff, List.contains_eq_mem, decide_eq_false_iff_not] at hc
  unfold wo at h ⊢
  rw [hf 73 13 hc.1.1 hc.1.2, hf 73 15 hc.1.1 hc.2]
  exact h
theorem wo.lo {V V' : pm_M} (h : wo V) (hk : ∀ k, k < 90 → V' k = V k) : wo V' := by
  unfold wo at h ⊢
  rw [hk 73 (by decide)]
  exact h
def lw_K (V : pm_M) : Prop := lw_J V ∧ wo V ∧ ra V V
theorem lw_k0 {V : pm_M} (c : ∀ k j : Nat, k < 90 → j < pm_sz k → V k j = pm_v0 k j) (r : ∀ k j : Nat, 90 ≤ k → k < 118 → j < pm_sz k → V k j = pm_v0 k j) : wo V ∧ ra V V := by
  have e1 : V 73 13 = 76 := c 73 13 (by decide) (by decide)
  have e2 : V 73 15 = 77 := c 73 15 (by decide) (by decide)
  have e3 : V 4 6 = 0 := c 4 6 (by decide) (by decide)
  have e4 : V 90 25 = 0 := r 90 25 (by decide) (by decide) (by decide)
  exact ⟨Or.inl ⟨e1, e2⟩, ra.none e3 e4 fun q hq => r 102 q (by decide) (by decide) hq⟩
