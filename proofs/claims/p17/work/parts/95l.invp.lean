/-! THE LAW'S INVARIANT with people's data -/
theorem rp.hi {V V' : pm_M} (h : rp V V) (hk : ∀ k, 90 ≤ k → V' k = V k) : rp V V' :=
  h.R (fun k q => hk k (by
    simp only [List.contains_eq_mem, List.mem_cons, List.not_mem_nil, or_false, decide_eq_true_eq] at q
    omega))
/-- a new scene -/
theorem rp.sc {V W : pm_M} (hq : rq V W) (e1 : V 4 1 = 1) (hn : 1 ≤ W 90 16) (a : V 5 0 = 0 ∧ V 6 0 = 0 ∧ V 7 0 = V (V 0 8).toNat 8 ∧ V 8 0 = 0) (b : W 100 0 = 0 ∧ W 100 1 = 0 ∧ W 100 2 = W 90 19 ∧ W 100 3 = 0) (c : ∀ q : Nat, q < 3 → W 102 q = 0) : rp V W := by
  obtain ⟨a5, a6, a7, a8⟩ := a
  obtain ⟨b0, b1, b2, b3⟩ := b
  obtain ⟨-, -, ⟨s0, -, -, s4, -⟩, -⟩ := hq
  obtain ⟨-, -, -, -, s8, -⟩ := s4 (by omega)
  refine ⟨fun j t hj ht => ?_, fun m hm hw j t hj ht => ?_⟩
  · rw [e1] at hj
    obtain rfl : j = 0 := by omega
    rcases (show t = 0 ∨ t = 1 ∨ t = 2 ∨ t = 3 by omega) with rfl | rfl | rfl | rfl
    · exact a5.trans b0.symm
    · exact a6.trans b1.symm
    · exact (a7.trans s8).trans b2.symm
    · exact a8.trans b3.symm
  · rw [c m hm] at hw
    exact absurd hw (by decide)
/-- what the law keeps, with people's data -/
def lw_J (V : pm_M) : Prop := lw_I V ∧ rp V V
/-- at the start -/
theorem lw_rp0 {V : pm_M} (c : ∀ k j : Nat, k < 90 → j < pm_sz k → V k j = pm_v0 k j) (r : ∀ k j : Nat, 90 ≤ k → k < 118 → j < pm_sz k → V k j = pm_v0 k j) : rp V V := by
  have p1 : V 4 1 = 0 := c 4 1 (by decide) (by decide)
  refine ⟨fun j t hj ht => ?_, fun m hm hw j t hj ht => ?_⟩
  · rw [p1] at hj
    omega
  · have q : V 102 m = 0 := r 102 m (by decide) (by decide) hm
    rw [q] at hw
    exact absurd hw (by decide)
