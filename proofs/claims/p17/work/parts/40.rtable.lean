/-! WHAT THE REFERENCE'S CELLS MAY HOLD: before a scene (A) and with one (B); a row of many entries goes round -/
abbrev pm_Qt : Type := List (pm_E ⊕ List pm_E)
def pm_qA : pm_Qt := [
  .inr [(91, 91, 0), (0, 500, 0), (0, 500, 0), (0, 4, 0), (0, 500, 0), (-9223372036854775808, 9223372036854775807, 0), (0, 9, 0), (92, 92, 0), (93, 93, 0), (94, 94, 0), (95, 95, 0), (-1, 16, 0), (0, 99, 0), (0, 12, 0), (96, 96, 0), (0, 0, 0), (0, 0, 0), (97, 97, 0), (98, 98, 0), (0, 0, 0), (0, 0, 0), (0, 0, 0), (99, 99, 0), (0, 0, 0), (100, 100, 0), (0, 0, 0), (101, 101, 0), (102, 102, 0), (103, 103, 0), (104, 104, 0), (105, 105, 0), (106, 106, 0), (0, 10, 0), (0, 600, 0), (107, 107, 0), (0, 10, 0), (108, 108, 0), (-2147483648, 2147483647, 0), (109, 109, 0), (0, 600, 0), (110, 110, 0), (111, 111, 0), (0, 171, 0), (0, 171, 0), (0, 13851, 0), (0, 1539, 0), (0, 2368521, 0), (0, 16, 0), (0, 8, 0), (0, 8, 0), (112, 112, 0), (0, 720000000, 0), (113, 113, 0), (114, 114, 0), (115, 115, 0), (116, 116, 0), (117, 117, 0), (-9223372036854775808, 9223372036854775807, 0)],
  .inl (-128, 127, 0),
  .inl (-9223372036854775808, 9223372036854775807, 0),
  .inr [(0, 99, 0), (0, 99, 0), (0, 9, 0)],
  .inl (0, 1, 0),
  .inr [(-1, 60, 0), (0, 9, 0), (-1, 60, 0), (0, 9, 0)],
  .inl (-1, 8, 0),
  .inr [(0, 99, 0), (0, 99, 0), (0, 9, 0)],
  .inr [(0, 0, 0), (0, 0, 0), (0, 0, 0), (0, 0, 0)],
  .inl (-1, 8, 0),
  .inr [(-30, 30, 0), (-30, 30, 0), (0, 16, 0), (0, 3, 0)],
  .inr [(0, 999, 1), (0, 99, 0), (-99, 99, 0), (0, 8, 0), (0, 1, 0)],
  .inl (0, 0, 0),
  .inl (0, 10, 0),
  .inr [(-30, 30, 0), (-30, 30, 0), (0, 16, 0), (0, 3, 0)],
  .inl (0, 60, 0),
  .inr [(0, 999, 1), (0, 99, 0), (-99, 99, 0), (0, 8, 0), (0, 1, 0)],
  .inr [(0, 7, 0), (0, 9999, 0)],
  .inr [(0, 7, 0), (0, 9999, 0)],
  .inl (-1, 7, 0),
  .inl (0, 1539, 0),
  .inl (0, 171, 0),
  .inl (0, 80000000, 0),
  .inl (0, 9999, 0),
  .inl (0, 600, 0),
  .inl (0, 80000000, 0),
  .inl (-2147483648, 2147483647, 0),
  .inl (-2147483648, 2147483647, 0)]
def pm_qB : pm_Qt := [
  .inr [(91, 91, 0), (0, 500, 0), (0, 500, 0), (0, 4, 0), (0, 500, 0), (-9223372036854775808, 9223372036854775807, 0), (0, 9, 0), (92, 92, 0), (93, 93, 0), (94, 94, 0), (95, 95, 0), (-1, 16, 0), (0, 99, 0), (0, 12, 0), (96, 96, 0), (1, 1, 0), (2, 9, 0), (97, 97, 0), (98, 98, 0), (0, 16, 0), (1, 99, 0), (0, 12, 0), (99, 99, 0), (0, 10, 0), (100, 100, 0), (0, 60, 0), (101, 101, 0), (102, 102, 0), (103, 103, 0), (104, 104, 0), (105, 105, 0), (106, 106, 0), (0, 10, 0), (0, 600, 0), (107, 107, 0), (0, 10, 0), (108, 108, 0), (-2147483648, 2147483647, 0), (109, 109, 0), (0, 600, 0), (110, 110, 0), (111, 111, 0), (0, 171, 0), (0, 171, 0), (0, 13851, 0), (0, 1539, 0), (0, 2368521, 0), (0, 16, 0), (0, 8, 0), (0, 8, 0), (112, 112, 0), (0, 720000000, 0), (113, 113, 0), (114, 114, 0), (115, 115, 0), (116, 116, 0), (117, 117, 0), (-9223372036854775808, 9223372036854775807, 0)],
  .inl (-128, 127, 0),
  .inl (-9223372036854775808, 9223372036854775807, 0),
  .inr [(0, 99, 0), (0, 99, 0), (0, 9, 0)],
  .inl (0, 1, 0),
  .inr [(-1, 60, 0), (0, 9, 0), (-1, 60, 0), (0, 9, 0)],
  .inl (-1, 8, 0),
  .inr [(0, 99, 0), (0, 99, 0), (0, 9, 0)],
  .inr [(1, 60, 0), (0, 9, 0), (1, 60, 0), (0, 9, 0)],
  .inl (-1, 8, 0),
  .inr [(-30, 30, 0), (-30, 30, 0), (0, 16, 0), (0, 3, 0)],
  .inr [(0, 999, 1), (0, 99, 0), (-99, 99, 0), (0, 8, 0), (0, 1, 0)],
  .inl (0, 1, 0),
  .inl (0, 10, 0),
  .inr [(-30, 30, 0), (-30, 30, 0), (0, 16, 0), (0, 3, 0)],
  .inl (0, 60, 0),
  .inr [(0, 999, 1), (0, 99, 0), (-99, 99, 0), (0, 8, 0), (0, 1, 0)],
  .inr [(0, 7, 0), (0, 9999, 0)],
  .inr [(0, 7, 0), (0, 9999, 0)],
  .inl (-1, 7, 0),
  .inl (0, 1539, 0),
  .inl (0, 171, 0),
  .inl (0, 80000000, 0),
  .inl (0, 9999, 0),
  .inl (0, 600, 0),
  .inl (0, 80000000, 0),
  .inl (-2147483648, 2147483647, 0),
  .inl (-2147483648, 2147483647, 0)]
def pm_qe (tb : pm_Qt) (k i : Nat) : pm_E := match tb[k - 90]? with
  | some (.inl e) => e
  | some (.inr l) => l.getD (i % l.length) (0, 0, 0)
  | none => (0, 0, 0)
def pm_oq (tb : pm_Qt) (V : pm_M) : Prop := ∀ k, 90 ≤ k → k < 118 → ∀ i, i < pm_sz k → pm_el (pm_qe tb k i) (V k i)
theorem pm_qe_r {tb : pm_Qt} {k i m r : Nat} {l : List pm_E} (hl : tb[k - 90]? = some (.inr l)) (hm : l.length = m) (hr : i % m = r) : pm_qe tb k i = l.getD r (0, 0, 0) := by
  unfold pm_qe
  rw [hl]
  show l.getD (i % l.length) (0, 0, 0) = _
  rw [hm, hr]
theorem pm_qe_c {tb : pm_Qt} {k i k' i' m : Nat} {l : List pm_E} (hl : tb[k - 90]? = some (.inr l)) (hl' : tb[k' - 90]? = some (.inr l)) (hm : l.length = m) (hr : i % m = i' % m) : pm_qe tb k i = pm_qe tb k' i' := by
  rw [pm_qe_r hl hm hr, pm_qe_r hl' hm rfl]
theorem pm_qhull {tb : pm_Qt} {k i : Nat} {x lo hi : Int} {l : List pm_E} (h : pm_el (pm_qe tb k i) x) (hl : tb[k - 90]? = some (.inr l)) (hm : (decide (lo ≤ 0) && decide (0 ≤ hi)) = true) (hh : (l.all fun e => decide (lo ≤ e.1) && decide (e.2.1 ≤ hi)) = true) : lo ≤ x ∧ x ≤ hi := by
  rw [pm_qe_r hl rfl rfl] at h
  have h2 : (decide (lo ≤ (l.getD (i % l.length) (0, 0, 0)).1) && decide ((l.getD (i % l.length) (0, 0, 0)).2.1 ≤ hi)) = true := by
    rw [List.getD_eq_getElem?_getD]
    rcases Nat.lt_or_ge (i % l.length) l.length with hlt | hge
    · rw [List.getElem?_eq_getElem hlt]
      exact List.all_eq_true.mp hh _ (List.getElem_mem hlt)
    · rw [List.getElem?_eq_none hge]
      exact hm
  simp only [Bool.and_eq_true, decide_eq_true_eq] at h2
  have h3 := h.1
  have h4 := h.2.1
  omega
theorem pm_oq.get {tb : pm_Qt} {V : pm_M} (h : pm_oq tb V) (k i : Nat) {lo hi : Int} {t : Nat} (hk : 90 ≤ k ∧ k < 118) (hz : i < pm_sz k) (he : pm_qe tb k i = (lo, hi, t)) : lo ≤ V k i ∧ V k i ≤ hi := by
  have h1 := h k hk.1 hk.2 i hz
  rw [he] at h1
  exact ⟨h1.1, h1.2.1⟩
theorem pm_oq.get1 {tb : pm_Qt} {V : pm_M} (h : pm_oq tb V) (k i : Nat) {lo hi : Int} (hk : 90 ≤ k ∧ k < 118) (hz : i < pm_sz k) (he : pm_qe tb k i = (lo, hi, 1)) : lo ≤ V k i ∧ V k i ≤ hi ∧ V k i % 10 ≤ 8 ∧ V k i / 10 % 10 ≤ 8 := by
  have h1 := h k hk.1 hk.2 i hz
  rw [he] at h1
  exact ⟨h1.1, h1.2.1, h1.2.2.1 rfl⟩
theorem pm_oq.one {tb : pm_Qt} {V : pm_M} (h : pm_oq tb V) (k i : Nat) {x : Int} {t : Nat} (hk : 90 ≤ k ∧ k < 118) (hz : i < pm_sz k) (he : pm_qe tb k i = (x, x, t)) : V k i = x := by
  have h1 := h.get k i hk hz he
  omega
theorem pm_oq.putel {tb : pm_Qt} {V : pm_M} (h : pm_oq tb V) (k i : Nat) {x : Int} (hx : pm_el (pm_qe tb k i) x) : pm_oq tb (pm_up V k i x) := by
  intro k' h1 h2 i' h3
  by_cases e1 : k' = k
  · subst e1
    by_cases e2 : i' = i
    · subst e2
      rw [pm_up_s]
      exact hx
    · rw [pm_up_i e2]
      exact h k' h1 h2 i' h3
  · rw [pm_up_c e1]
    exact h k' h1 h2 i' h3
theorem pm_oq.put {tb : pm_Qt} {V : pm_M} (h : pm_oq tb V) (k i : Nat) {x lo hi : Int} (he : pm_qe tb k i = (lo, hi, 0)) (hx : lo ≤ x ∧ x ≤ hi) : pm_oq tb (pm_up V k i x) := by
  refine h.putel k i ?_
  rw [he]
  exact ⟨hx.1, hx.2, fun q => absurd (show (0 : Nat) = 1 from q) (by decide), fun q => absurd (show (0 : Nat) = 2 from q) (by decide)⟩
theorem pm_oq.put1 {tb : pm_Qt} {V : pm_M} (h : pm_oq tb V) (k i : Nat) {x lo hi : Int} (he : pm_qe tb k i = (lo, hi, 1)) (hx : lo ≤ x ∧ x ≤ hi ∧ x % 10 ≤ 8 ∧ x / 10 % 10 ≤ 8) : pm_oq tb (pm_up V k i x) := by
  refine h.putel k i ?_
  rw [he]
  exact ⟨hx.1, hx.2.1, fun _ => hx.2.2, fun q => absurd (show (1 : Nat) = 2 from q) (by decide)⟩
theorem pm_oq.eq {tb : pm_Qt} {V V' : pm_M} (h : pm_oq tb V) (he : ∀ k, 90 ≤ k → k < 118 → V' k = V k) : pm_oq tb V' := by
  intro k h1 h2 i hi
  rw [he k h1 h2]
  exact h k h1 h2 i hi
/-- but for the cells cs, and the fields fs of the reference's own cell, all is as it was -/
def pm_fs (cs fs : List Nat) (V V' : pm_M) : Prop := (∀ k, k ∉ cs → k ≠ 90 → V' k = V k) ∧ ∀ i, i ∉ fs → V' 90 i = V 90 i
theorem pm_fs.rf {cs fs : List Nat} {V : pm_M} : pm_fs cs fs V V := ⟨fun _ _ _ => rfl, fun _ _ => rfl⟩
theorem pm_fs.up {cs fs : List Nat} {V V' : pm_M} (h : pm_fs cs fs V V') (k i : Nat) (x : Int) (h9 : k ≠ 90) (hk : cs.contains k = true) : pm_fs cs fs V (pm_up V' k i x) := by
  refine ⟨fun j hj h0 => ?_, fun j hj => ?_⟩
  · have hne : j ≠ k := fun e => hj (e ▸ (by simpa using hk))
    have e : pm_up V' k i x j = V' j := by funext t; simp [pm_up, hne]
    rw [e]
    exact h.1 j hj h0
  · rw [pm_up_c (Ne.symm h9)]
    exact h.2 j hj
theorem pm_fs.upf {cs fs : List Nat} {V V' : pm_M} (h : pm_fs cs fs V V') (i : Nat) (x : Int) (hk : fs.contains i = true) : pm_fs cs fs V (pm_up V' 90 i x) := by
  refine ⟨fun j hj h0 => ?_, fun j hj => ?_⟩
  · have e : pm_up V' 90 i x j = V' j := by funext t; simp [pm_up, h0]
    rw [e]
    exact h.1 j hj h0
  · have hne : j ≠ i := fun e => hj (e ▸ (by simpa using hk))
    rw [pm_up_i hne]
    exact h.2 j hj
theorem pm_fs.tr {cs fs c1 f1 : List Nat} {V V1 V2 : pm_M} (h : pm_fs cs fs V V1) (h1 : pm_fs c1 f1 V1 V2) (hw : c1.all (fun k => cs.contains k) = true) (hf : f1.all (fun k => fs.contains k) = true) : pm_fs cs fs V V2 := by
  refine ⟨fun j hj h0 => ?_, fun j hj => ?_⟩
  · rw [h1.1 j (fun q => hj ?_) h0, h.1 j hj h0]
    have := List.all_eq_true.mp hw j q
    simpa using this
  · rw [h1.2 j (fun q => hj ?_), h.2 j hj]
    have := List.all_eq_true.mp hf j q
    simpa using this
