/-! THE LAW'S INVARIANT with the rows of chances that are kept, tried -/
theorem ck.ff {V V' : pm_M} {cs : List Nat} {fs : List (Nat × Nat)} (h : ck V) (hf : pm_ff cs fs V V') (hc : (cs.contains 0 || fs.contains (0, 12) || fs.contains (0, 13)) = false) : ck V' := by
  simp only [Bool.or_eq_false_iff, List.contains_eq_mem, decide_eq_false_iff_not] at hc
  unfold ck at h ⊢
  rw [hf 0 12 hc.1.1 hc.1.2, hf 0 13 hc.1.1 hc.2]
  exact h
theorem ck.lo {V V' : pm_M} (h : ck V) (hk : ∀ k, k < 90 → V' k = V k) : ck V' := by
  unfold ck at h ⊢
  rw [hk 0 (by decide)]
  exact h
theorem rs_of {W : pm_M} (hB : pm_oq pm_qB W) (h3 : pm_h3 W) : rs W := by
  refine ⟨hB.get 90 25 (lo := 0) (hi := 60) (t := 0) (by decide) (by decide) rfl, fun k hk => ?_⟩
  have b25 := hB.get 90 25 (lo := 0) (hi := 60) (t := 0) (by decide) (by decide) rfl
  have q := h3 (k : Int) (by omega) hk
  rw [show (5 * (k : Int) + 3).toNat = 5 * k + 3 by omega] at q
  have r3 := hB.get 101 (5 * k + 3) (lo := 0) (hi := 8) (t := 0) (by decide) (show _ < 300 by omega) ((pm_qe_r (tb := pm_qB) (k := 101) (i := 5 * k + 3) (m := 5) (r := 3) (l := [(0, 999, 1), (0, 99, 0), (-99, 99, 0), (0, 8, 0), (0, 1, 0)]) rfl rfl (by omega)).trans rfl)
  exact ⟨r3.1, q.2.2⟩
def lw_N (V : pm_M) : Prop := lw_K V ∧ ck V
theorem lw_n0 {V : pm_M} (c : ∀ k j : Nat, k < 90 → j < pm_sz k → V k j = pm_v0 k j) : ck V := Or.inl ⟨c 0 12 (by decide) (by decide), c 0 13 (by decide) (by decide)⟩
