/-! THE WORLD AT THE START keeps the tables -/
def pm_elb (e : pm_E) (x : Int) : Bool := decide (e.1 ≤ x) && decide (x ≤ e.2.1) && (decide (e.2.2 ≠ 1) || (decide (x % 10 ≤ 8) && decide (x / 10 % 10 ≤ 8))) && (decide (e.2.2 ≠ 2) || decide (x = e.1) || decide (x = e.2.1))
theorem pm_elb_el {e : pm_E} {x : Int} (h : pm_elb e x = true) : pm_el e x := by
  unfold pm_elb at h
  simp only [Bool.and_eq_true, Bool.or_eq_true, decide_eq_true_eq] at h
  obtain ⟨⟨⟨h1, h2⟩, h3⟩, h4⟩ := h
  refine ⟨h1, h2, fun q => ?_, fun q => ?_⟩
  · rcases h3 with h3 | h3
    · exact absurd q h3
    · exact h3
  · rcases h4 with (h4 | h4) | h4
    · exact absurd q h4
    · exact Or.inl h4
    · exact Or.inr h4
def pm_ck (k : Nat) : Bool := match pm_tb[k]? with
  | some (.inl e) => decide (pm_ini k = []) && pm_elb e 0
  | some (.inr l) => (List.range (pm_sz k)).all fun i => pm_elb (l.getD i (0, 0, 0)) (pm_v0 k i)
  | none => false
theorem pm_v0_nil {k i : Nat} (h : pm_ini k = []) : pm_v0 k i = 0 := by
  unfold pm_v0
  rw [h]
  rfl
theorem pm_ck_el {k i : Nat} (h : pm_ck k = true) (hi : i < pm_sz k) : pm_el (pm_te k i) (pm_v0 k i) := by
  unfold pm_ck at h
  unfold pm_te
  cases e : pm_tb[k]? with
  | none => rw [e] at h; exact absurd h Bool.false_ne_true
  | some q =>
    rw [e] at h
    cases q with
    | inl w =>
      simp only [Bool.and_eq_true, decide_eq_true_eq] at h
      rw [pm_v0_nil h.1]
      exact pm_elb_el h.2
    | inr l =>
      have h2 := List.all_eq_true.mp h i (List.mem_range.mpr hi)
      exact pm_elb_el h2
theorem pm_cks : ((List.range 90).all pm_ck) = true := by decide +kernel
theorem pm_wa_ok {V : pm_M} (h : pm_wa 0 90 V) : pm_ok 0 90 V := by
  intro k h1 h2 i hi
  rw [h k h1 h2 i hi]
  exact pm_ck_el (List.all_eq_true.mp pm_cks k (List.mem_range.mpr h2)) hi
