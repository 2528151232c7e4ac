/-! THE REFERENCE'S CELLS WHILE IT READS: what A and B hold alike -/
def pm_qP : pm_Qt := [
  .inr [(91, 91, 0), (0, 500, 0), (0, 500, 0), (0, 4, 0), (0, 500, 0), (-9223372036854775808, 9223372036854775807, 0), (0, 9, 0), (92, 92, 0), (93, 93, 0), (94, 94, 0), (95, 95, 0), (-1, 16, 0), (0, 99, 0), (0, 12, 0), (96, 96, 0), (0, 1, 0), (0, 9, 0), (97, 97, 0), (98, 98, 0), (0, 16, 0), (0, 99, 0), (0, 12, 0), (99, 99, 0), (0, 10, 0), (100, 100, 0), (0, 60, 0), (101, 101, 0), (102, 102, 0), (103, 103, 0), (104, 104, 0), (105, 105, 0), (106, 106, 0), (0, 10, 0), (0, 600, 0), (107, 107, 0), (0, 10, 0), (108, 108, 0), (-2147483648, 2147483647, 0), (109, 109, 0), (0, 600, 0), (110, 110, 0), (111, 111, 0), (0, 171, 0), (0, 171, 0), (0, 13851, 0), (0, 1539, 0), (0, 2368521, 0), (0, 16, 0), (0, 8, 0), (0, 8, 0), (112, 112, 0), (0, 720000000, 0), (113, 113, 0), (114, 114, 0), (115, 115, 0), (116, 116, 0), (117, 117, 0), (-9223372036854775808, 9223372036854775807, 0)],
  .inl (-128, 127, 0),
  .inl (-9223372036854775808, 9223372036854775807, 0),
  .inr [(0, 99, 0), (0, 99, 0), (0, 9, 0)],
  .inl (0, 1, 0),
  .inr [(-1, 60, 0), (0, 9, 0), (-1, 60, 0), (0, 9, 0)],
  .inl (-1, 8, 0),
  .inr [(0, 99, 0), (0, 99, 0), (0, 9, 0)],
  .inr [(0, 60, 0), (0, 9, 0), (0, 60, 0), (0, 9, 0)],
  .inl (-1, 8, 0),
  .inr [(-30, 30, 0), (-30, 30, 0), (0, 16, 0), (0, 3, 0)],
  .inr [(0, 999, 1), (0, 99, 0), (-99, 99, 0), (0, 8, 0), (0, 1, 0)],
  .inl (0, 1, 0),
  .inl (0, 10, 0),
  .inr [(-30, 30, 0), (-30, 30, 0), (0, 16, 0), (0, 3, 0)],
  .inl (0, 60, 0),
  .inr [(0, 999, 1), (0, 99, 0), (-99, 99, 0), (0, 8, 0), (0, 1, 0)],
  .inr [(0, 7, 0), (0, 9999, 0)],
  .inr [(0, 7, 0), (0, 9999, 0)],
  .inl (-1, 7, 0),
  .inl (0, 1539, 0),
  .inl (0, 171, 0),
  .inl (0, 80000000, 0),
  .inl (0, 9999, 0),
  .inl (0, 600, 0),
  .inl (0, 80000000, 0),
  .inl (-2147483648, 2147483647, 0),
  .inl (-2147483648, 2147483647, 0)]
def pm_ine (e1 e2 : pm_E) : Bool := decide (e2.1 ≤ e1.1) && decide (e1.2.1 ≤ e2.2.1) && (decide (e2.2.2 = 0) || (decide (e2.2.2 = 1) && decide (e1.2.2 = 1)))
theorem pm_ine_el {e1 e2 : pm_E} {x : Int} (h : pm_ine e1 e2 = true) (hx : pm_el e1 x) : pm_el e2 x := by
  unfold pm_ine at h
  simp only [Bool.and_eq_true, Bool.or_eq_true, decide_eq_true_eq] at h
  obtain ⟨⟨h1, h2⟩, h3⟩ := h
  obtain ⟨q1, q2, q3, q4⟩ := hx
  refine ⟨by omega, by omega, fun q => ?_, fun q => ?_⟩
  · rcases h3 with h3 | h3
    · exact absurd (q.symm.trans h3) (by decide)
    · exact q3 h3.2
  · rcases h3 with h3 | h3
    · exact absurd (q.symm.trans h3) (by decide)
    · exact absurd (q.symm.trans h3.1) (by decide)
def pm_inq (a b : pm_E ⊕ List pm_E) : Bool := match a, b with
  | .inl e1, .inl e2 => pm_ine e1 e2
  | .inr l1, .inr l2 => decide (l1.length = l2.length) && ((List.range l1.length).all fun i => pm_ine (l1.getD i (0, 0, 0)) (l2.getD i (0, 0, 0)))
  | _, _ => false
theorem pm_inq_el {t1 t2 : pm_Qt} {k i : Nat} {x : Int} {a b : pm_E ⊕ List pm_E} (ha : t1[k - 90]? = some a) (hb : t2[k - 90]? = some b) (h : pm_inq a b = true) (hx : pm_el (pm_qe t1 k i) x) : pm_el (pm_qe t2 k i) x := by
  unfold pm_qe at hx ⊢
  rw [ha] at hx
  rw [hb]
  cases a with
  | inl e1 =>
    cases b with
    | inl e2 => exact pm_ine_el h hx
    | inr l2 => exact absurd h Bool.false_ne_true
  | inr l1 =>
    cases b with
    | inl e2 => exact absurd h Bool.false_ne_true
    | inr l2 =>
      unfold pm_inq at h
      simp only [Bool.and_eq_true, decide_eq_true_eq] at h
      obtain ⟨h1, h2⟩ := h
      have hx2 : pm_el (l1.getD (i % l1.length) (0, 0, 0)) x := hx
      show pm_el (l2.getD (i % l2.length) (0, 0, 0)) x
      rw [← h1]
      rcases Nat.lt_or_ge (i % l1.length) l1.length with hlt | hge
      · exact pm_ine_el (List.all_eq_true.mp h2 _ (List.mem_range.mpr hlt)) hx2
      · rw [List.getD_eq_getElem?_getD, List.getElem?_eq_none (by omega)]
        rw [List.getD_eq_getElem?_getD, List.getElem?_eq_none (by omega)] at hx2
        exact hx2
theorem pm_lenA : pm_qA.length = 28 := by decide
theorem pm_lenB : pm_qB.length = 28 := by decide
theorem pm_lenP : pm_qP.length = 28 := by decide
theorem pm_oq_in {t1 t2 : pm_Qt} (h1 : t1.length = 28) (h2 : t2.length = 28) (h : ((List.range 28).all fun k => pm_inq (t1.getD k (.inl (0, 0, 0))) (t2.getD k (.inl (0, 0, 0)))) = true) {V : pm_M} (hV : pm_oq t1 V) : pm_oq t2 V := by
  intro k q1 q2 i q3
  have e1 : t1[k - 90]? = some (t1.getD (k - 90) (.inl (0, 0, 0))) := by rw [List.getD_eq_getElem?_getD, List.getElem?_eq_getElem (by omega)]; rfl
  have e2 : t2[k - 90]? = some (t2.getD (k - 90) (.inl (0, 0, 0))) := by rw [List.getD_eq_getElem?_getD, List.getElem?_eq_getElem (by omega)]; rfl
  exact pm_inq_el e1 e2 (List.all_eq_true.mp h (k - 90) (List.mem_range.mpr (by omega))) (hV k q1 q2 i q3)
theorem pm_oqAP {V : pm_M} (h : pm_oq pm_qA V) : pm_oq pm_qP V := pm_oq_in pm_lenA pm_lenP (by decide +kernel) h
theorem pm_oqBP {V : pm_M} (h : pm_oq pm_qB V) : pm_oq pm_qP V := pm_oq_in pm_lenB pm_lenP (by decide +kernel) h
/-- back to a table of which the written cells and fields say the same -/
theorem pm_oq_back {t1 t2 : pm_Qt} (h1 : t1.length = 28) (h2 : t2.length = 28) (cs fs : List Nat) (h : ((List.range 28).all fun k => decide (k = 0) || !(cs.contains (k + 90)) || pm_inq (t2.getD k (.inl (0, 0, 0))) (t1.getD k (.inl (0, 0, 0)))) = true) (hf : (fs.all fun i => pm_ine (pm_qe t2 90 i) (pm_qe t1 90 i)) = true) {V V' : pm_M} (hV : pm_oq t1 V) (hP : pm_oq t2 V') (hF : pm_fs cs fs V V') : pm_oq t1 V' := by
  intro k q1 q2 i q3
  by_cases e0 : k = 90
  · subst e0
    by_cases hi : i ∈ fs
    · exact pm_ine_el (List.all_eq_true.mp hf i hi) (hP 90 q1 q2 i q3)
    · rw [hF.2 i hi]
      exact hV 90 q1 q2 i q3
  · by_cases hk : k ∈ cs
    · have e1 : t1[k - 90]? = some (t1.getD (k - 90) (.inl (0, 0, 0))) := by rw [List.getD_eq_getElem?_getD, List.getElem?_eq_getElem (by omega)]; rfl
      have e2 : t2[k - 90]? = some (t2.getD (k - 90) (.inl (0, 0, 0))) := by rw [List.getD_eq_getElem?_getD, List.getElem?_eq_getElem (by omega)]; rfl
      have h3 := List.all_eq_true.mp h (k - 90) (List.mem_range.mpr (by omega))
      have hc : cs.contains (k - 90 + 90) = true := by
        rw [show k - 90 + 90 = k by omega]
        simpa using hk
      simp only [Bool.or_eq_true, decide_eq_true_eq, hc, Bool.not_true, Bool.false_eq_true] at h3
      rcases h3 with (h3 | h3) | h3
      · omega
      · exact absurd h3 (fun q => q)
      · exact pm_inq_el e2 e1 h3 (hP k q1 q2 i q3)
    · rw [hF.1 k hk e0]
      exact hV k q1 q2 i q3
/-- between leads: a token that is there has bytes -/
def pm_tk (V : pm_M) : Prop := V 90 3 ≤ 4 * (V 90 2 - V 90 4)
theorem pm_tk.fr {V V' : pm_M} (h : pm_tk V) (h1 : V' 90 2 = V 90 2) (h2 : V' 90 3 = V 90 3) (h3 : V' 90 4 = V 90 4) : pm_tk V' := by
  unfold pm_tk
  rw [h1, h2, h3]
  exact h
/-- the place is within the text -/
def pm_az (V : pm_M) : Prop := V 90 2 ≤ V 90 1
theorem pm_az.fr {V V' : pm_M} (h : pm_az V) (h1 : V' 90 1 = V 90 1) (h2 : V' 90 2 = V 90 2) : pm_az V' := by
  unfold pm_az
  rw [h1, h2]
  exact h
