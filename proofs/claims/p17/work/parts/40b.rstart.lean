/-! the reference's world at the start keeps the table A -/
def pm_ckr (tb : pm_Qt) (k : Nat) : Bool := match tb[k - 90]? with
  | some (.inl e) => decide (pm_ini k = []) && pm_elb e 0
  | some (.inr l) => if pm_ini k = [] then l.all fun e => pm_elb e 0 else decide (pm_sz k ≤ l.length) && (List.range (pm_sz k)).all fun i => pm_elb (l.getD i (0, 0, 0)) (pm_v0 k i)
  | none => false
theorem pm_ckr_el {tb : pm_Qt} {k i : Nat} (h : pm_ckr tb k = true) (hi : i < pm_sz k) : pm_el (pm_qe tb k i) (pm_v0 k i) := by
  unfold pm_ckr at h
  unfold pm_qe
  cases e : tb[k - 90]? with
  | none => rw [e] at h; exact absurd h Bool.false_ne_true
  | some q =>
    rw [e] at h
    cases q with
    | inl w =>
      simp only [Bool.and_eq_true, decide_eq_true_eq] at h
      rw [pm_v0_nil h.1]
      exact pm_elb_el h.2
    | inr l =>
      by_cases hn : pm_ini k = []
      · simp only [hn, if_true] at h
        rw [pm_v0_nil hn]
        show pm_el (l.getD (i % l.length) (0, 0, 0)) 0
        rw [List.getD_eq_getElem?_getD]
        rcases Nat.lt_or_ge (i % l.length) l.length with hlt | hge
        · rw [List.getElem?_eq_getElem hlt]
          exact pm_elb_el (List.all_eq_true.mp h _ (List.getElem_mem hlt))
        · rw [List.getElem?_eq_none hge]
          exact pm_elb_el (by decide)
      · simp only [hn, if_false, Bool.and_eq_true, decide_eq_true_eq] at h
        show pm_el (l.getD (i % l.length) (0, 0, 0)) (pm_v0 k i)
        rw [Nat.mod_eq_of_lt (by omega)]
        exact pm_elb_el (List.all_eq_true.mp h.2 i (List.mem_range.mpr hi))
theorem pm_ckrs : ((List.range 28).all fun k => pm_ckr pm_qA (k + 90)) = true := by decide +kernel
theorem pm_wa_oq {V : pm_M} (h : pm_wa 90 118 V) : pm_oq pm_qA V := by
  intro k h1 h2 i hi
  rw [h k h1 h2 i hi]
  have h3 := List.all_eq_true.mp pm_ckrs (k - 90) (List.mem_range.mpr (by omega))
  have e : k - 90 + 90 = k := by omega
  rw [e] at h3
  exact pm_ckr_el h3 hi
