/-! WHAT THE CLASS'S CELLS MAY HOLD: for each cell and place a least and a greatest number, and of what kind (1: a couple's digits below 9; 2: one of the two alone) -/
abbrev pm_E : Type := Int × Int × Nat
def pm_el (e : pm_E) (x : Int) : Prop := e.1 ≤ x ∧ x ≤ e.2.1 ∧ (e.2.2 = 1 → x % 10 ≤ 8 ∧ x / 10 % 10 ≤ 8) ∧ (e.2.2 = 2 → x = e.1 ∨ x = e.2.1)
def pm_tb : List (pm_E ⊕ List pm_E) := [
  .inr [(1, 1, 0), (69, 69, 0), (72, 72, 0), (4, 4, 0), (14, 14, 0), (73, 73, 0), (78, 78, 0), (83, 83, 0), (45, 51, 2), (45, 51, 2), (57, 63, 2), (57, 63, 2), (84, 87, 2), (84, 87, 2), (-2147483648, 2147483647, 0), (-2147483648, 2147483647, 0), (-9223372036854775808, 9223372036854775807, 0)],
  .inr [(2, 2, 0), (0, 500, 0)],
  .inl (0, 255, 0),
  .inr [(1, 1, 0), (0, 4, 0), (0, 500, 0), (-9223372036854775808, 9223372036854775807, 0), (0, 500, 0)],
  .inr [(0, 1, 0), (0, 10, 0), (5, 5, 0), (6, 6, 0), (7, 7, 0), (8, 8, 0), (0, 60, 0), (9, 9, 0), (10, 10, 0), (11, 11, 0), (12, 12, 0), (13, 13, 0)],
  .inl (-30, 30, 0),
  .inl (-30, 30, 0),
  .inl (0, 16, 0),
  .inl (0, 3, 0),
  .inl (0, 999, 1),
  .inl (0, 99, 0),
  .inl (-99, 99, 0),
  .inl (0, 8, 0),
  .inl (0, 1, 0),
  .inr [(15, 15, 0), (25, 25, 0), (35, 35, 0)],
  .inr [(0, 1, 0), (0, 10, 0), (16, 16, 0), (17, 17, 0), (18, 18, 0), (19, 19, 0), (0, 60, 0), (20, 20, 0), (21, 21, 0), (22, 22, 0), (23, 23, 0), (24, 24, 0)],
  .inl (-30, 30, 0),
  .inl (-30, 30, 0),
  .inl (0, 16, 0),
  .inl (0, 3, 0),
  .inl (0, 999, 1),
  .inl (0, 99, 0),
  .inl (-99, 99, 0),
  .inl (0, 8, 0),
  .inl (0, 1, 0),
  .inr [(0, 1, 0), (0, 10, 0), (26, 26, 0), (27, 27, 0), (28, 28, 0), (29, 29, 0), (0, 60, 0), (30, 30, 0), (31, 31, 0), (32, 32, 0), (33, 33, 0), (34, 34, 0)],
  .inl (-30, 30, 0),
  .inl (-30, 30, 0),
  .inl (0, 16, 0),
  .inl (0, 3, 0),
  .inl (0, 999, 1),
  .inl (0, 99, 0),
  .inl (-99, 99, 0),
  .inl (0, 8, 0),
  .inl (0, 1, 0),
  .inr [(0, 1, 0), (0, 10, 0), (36, 36, 0), (37, 37, 0), (38, 38, 0), (39, 39, 0), (0, 60, 0), (40, 40, 0), (41, 41, 0), (42, 42, 0), (43, 43, 0), (44, 44, 0)],
  .inl (-30, 30, 0),
  .inl (-30, 30, 0),
  .inl (0, 16, 0),
  .inl (0, 3, 0),
  .inl (0, 999, 1),
  .inl (0, 99, 0),
  .inl (-99, 99, 0),
  .inl (0, 8, 0),
  .inl (0, 1, 0),
  .inr [(0, 9, 0), (46, 46, 0), (47, 47, 0), (48, 48, 0), (0, 60, 0), (0, 9, 0), (0, 60, 0), (0, 9, 0), (0, 16, 0), (0, 99, 0), (0, 12, 0), (49, 49, 0), (50, 50, 0)],
  .inl (0, 99, 0),
  .inl (0, 99, 0),
  .inl (0, 9, 0),
  .inl (0, 99, 0),
  .inl (0, 8, 0),
  .inr [(0, 9, 0), (52, 52, 0), (53, 53, 0), (54, 54, 0), (0, 60, 0), (0, 9, 0), (0, 60, 0), (0, 9, 0), (0, 16, 0), (0, 99, 0), (0, 12, 0), (55, 55, 0), (56, 56, 0)],
  .inl (0, 99, 0),
  .inl (0, 99, 0),
  .inl (0, 9, 0),
  .inl (0, 99, 0),
  .inl (0, 8, 0),
  .inr [(0, 10, 0), (58, 58, 0), (59, 59, 0), (60, 60, 0), (61, 61, 0), (0, 500, 0), (62, 62, 0), (0, 64, 0)],
  .inl (0, 3, 0),
  .inl (0, 500, 0),
  .inl (0, 500, 0),
  .inl (0, 30000, 0),
  .inl (-9223372036854775808, 9223372036854775807, 0),
  .inr [(0, 10, 0), (64, 64, 0), (65, 65, 0), (66, 66, 0), (67, 67, 0), (0, 500, 0), (68, 68, 0), (0, 64, 0)],
  .inl (0, 3, 0),
  .inl (0, 500, 0),
  .inl (0, 500, 0),
  .inl (0, 30000, 0),
  .inl (-9223372036854775808, 9223372036854775807, 0),
  .inr [(3, 3, 0), (70, 70, 0), (71, 71, 0), (45, 51, 2), (0, 1, 0), (-2147483648, 2147483647, 0), (-2147483648, 2147483647, 0)],
  .inl (-9223372036854775808, 9223372036854775807, 0),
  .inl (0, 1, 0),
  .inr [(3, 3, 0), (57, 63, 2)],
  .inr [(45, 51, 2), (0, 8, 0), (0, 8, 0), (0, 9, 0), (0, 9, 0), (1, 171, 0), (1, 171, 0), (-9223372036854775808, 9223372036854775807, 0), (74, 74, 0), (75, 75, 0), (-9223372036854775808, 9223372036854775807, 0), (-9223372036854775808, 9223372036854775807, 0), (-9223372036854775808, 9223372036854775807, 0), (76, 77, 2), (-9223372036854775808, 9223372036854775807, 0), (76, 77, 2)],
  .inl (-9223372036854775808, 9223372036854775807, 0),
  .inl (-9223372036854775808, 9223372036854775807, 0),
  .inl (-9223372036854775808, 9223372036854775807, 0),
  .inl (-9223372036854775808, 9223372036854775807, 0),
  .inr [(79, 79, 0), (81, 81, 0)],
  .inr [(80, 80, 0), (0, 128, 0)],
  .inl (-9223372036854775808, 9223372036854775807, 0),
  .inr [(82, 82, 0), (0, 128, 0)],
  .inl (-9223372036854775808, 9223372036854775807, 0),
  .inl (-9223372036854775808, 9223372036854775807, 0),
  .inr [(0, 60, 0), (85, 85, 0), (86, 86, 0)],
  .inl (-9223372036854775808, 9223372036854775807, 0),
  .inl (-9223372036854775808, 9223372036854775807, 0),
  .inr [(0, 60, 0), (88, 88, 0), (89, 89, 0)],
  .inl (-9223372036854775808, 9223372036854775807, 0),
  .inl (-9223372036854775808, 9223372036854775807, 0)]
def pm_te (k i : Nat) : pm_E := match pm_tb[k]? with
  | some (.inl e) => e
  | some (.inr l) => l.getD i (0, 0, 0)
  | none => (0, 0, 0)
def pm_sz (k : Nat) : Nat := match pm_lay[k]? with
  | some q => q.2.2
  | none => 0
/-- the cells from a on, below b, are as the table says -/
def pm_ok (a b : Nat) (V : pm_M) : Prop := ∀ k, a ≤ k → k < b → ∀ i, i < pm_sz k → pm_el (pm_te k i) (V k i)
theorem pm_ok.get {a b : Nat} {V : pm_M} (h : pm_ok a b V) (k i : Nat) {lo hi : Int} {t : Nat} (hk : a ≤ k ∧ k < b) (hz : i < pm_sz k) (he : pm_te k i = (lo, hi, t)) : lo ≤ V k i ∧ V k i ≤ hi := by
  have h1 := h k hk.1 hk.2 i hz
  rw [he] at h1
  exact ⟨h1.1, h1.2.1⟩
theorem pm_ok.get1 {a b : Nat} {V : pm_M} (h : pm_ok a b V) (k i : Nat) {lo hi : Int} (hk : a ≤ k ∧ k < b) (hz : i < pm_sz k) (he : pm_te k i = (lo, hi, 1)) : lo ≤ V k i ∧ V k i ≤ hi ∧ V k i % 10 ≤ 8 ∧ V k i / 10 % 10 ≤ 8 := by
  have h1 := h k hk.1 hk.2 i hz
  rw [he] at h1
  exact ⟨h1.1, h1.2.1, h1.2.2.1 rfl⟩
theorem pm_ok.get2 {a b : Nat} {V : pm_M} (h : pm_ok a b V) (k i : Nat) {lo hi : Int} (hk : a ≤ k ∧ k < b) (hz : i < pm_sz k) (he : pm_te k i = (lo, hi, 2)) : V k i = lo ∨ V k i = hi := by
  have h1 := h k hk.1 hk.2 i hz
  rw [he] at h1
  exact h1.2.2.2 rfl
/-- a place of one value alone -/
theorem pm_ok.one {a b : Nat} {V : pm_M} (h : pm_ok a b V) (k i : Nat) {x : Int} {t : Nat} (hk : a ≤ k ∧ k < b) (hz : i < pm_sz k) (he : pm_te k i = (x, x, t)) : V k i = x := by
  have h1 := h.get k i hk hz he
  omega
theorem pm_ok.put {a b : Nat} {V : pm_M} (h : pm_ok a b V) (k i : Nat) {x lo hi : Int} (he : pm_te k i = (lo, hi, 0)) (hx : lo ≤ x ∧ x ≤ hi) : pm_ok a b (pm_up V k i x) := by
  intro k' h1 h2 i' h3
  by_cases e1 : k' = k
  · subst e1
    by_cases e2 : i' = i
    · subst e2
      rw [pm_up_s, he]
      exact ⟨hx.1, hx.2, fun q => absurd (show (0 : Nat) = 1 from q) (by decide), fun q => absurd (show (0 : Nat) = 2 from q) (by decide)⟩
    · rw [pm_up_i e2]
      exact h k' h1 h2 i' h3
  · rw [pm_up_c e1]
    exact h k' h1 h2 i' h3
theorem pm_ok.put1 {a b : Nat} {V : pm_M} (h : pm_ok a b V) (k i : Nat) {x lo hi : Int} (he : pm_te k i = (lo, hi, 1)) (hx : lo ≤ x ∧ x ≤ hi ∧ x % 10 ≤ 8 ∧ x / 10 % 10 ≤ 8) : pm_ok a b (pm_up V k i x) := by
  intro k' h1 h2 i' h3
  by_cases e1 : k' = k
  · subst e1
    by_cases e2 : i' = i
    · subst e2
      rw [pm_up_s, he]
      exact ⟨hx.1, hx.2.1, fun _ => hx.2.2, fun q => absurd (show (1 : Nat) = 2 from q) (by decide)⟩
    · rw [pm_up_i e2]
      exact h k' h1 h2 i' h3
  · rw [pm_up_c e1]
    exact h k' h1 h2 i' h3
theorem pm_ok.put2 {a b : Nat} {V : pm_M} (h : pm_ok a b V) (k i : Nat) {x lo hi : Int} (he : pm_te k i = (lo, hi, 2)) (hx : (x = lo ∨ x = hi) ∧ lo ≤ hi) : pm_ok a b (pm_up V k i x) := by
  intro k' h1 h2 i' h3
  by_cases e1 : k' = k
  · subst e1
    by_cases e2 : i' = i
    · subst e2
      rw [pm_up_s, he]
      exact ⟨by show lo ≤ x; omega, by show x ≤ hi; omega, fun q => absurd (show (2 : Nat) = 1 from q) (by decide), fun _ => hx.1⟩
    · rw [pm_up_i e2]
      exact h k' h1 h2 i' h3
  · rw [pm_up_c e1]
    exact h k' h1 h2 i' h3
theorem pm_ok.app {a b c : Nat} {V : pm_M} (h1 : pm_ok a b V) (h2 : pm_ok b c V) : pm_ok a c V := by
  intro k hk1 hk2 i hi
  rcases Nat.lt_or_ge k b with h | h
  · exact h1 k hk1 h i hi
  · exact h2 k h hk2 i hi
theorem pm_ok.sub {a b a' b' : Nat} {V : pm_M} (h : pm_ok a b V) (h1 : a ≤ a') (h2 : b' ≤ b) : pm_ok a' b' V := fun k hk1 hk2 => h k (by omega) (by omega)
theorem pm_ok.eq {a b : Nat} {V V' : pm_M} (h : pm_ok a b V) (he : ∀ k, a ≤ k → k < b → V' k = V k) : pm_ok a b V' := by
  intro k h1 h2 i hi
  rw [he k h1 h2]
  exact h k h1 h2 i hi
/-- but for the cells ws all is as it was -/
def pm_fr (ws : List Nat) (V V' : pm_M) : Prop := ∀ k, k ∉ ws → V' k = V k
theorem pm_fr.rf {ws : List Nat} {V : pm_M} : pm_fr ws V V := fun _ _ => rfl
theorem pm_fr.up {ws : List Nat} {V V' : pm_M} (h : pm_fr ws V V') (k i : Nat) (x : Int) (hk : ws.contains k = true) : pm_fr ws V (pm_up V' k i x) := by
  intro j hj
  have hne : j ≠ k := fun e => hj (e ▸ (by simpa using hk))
  have e : pm_up V' k i x j = V' j := by funext t; simp [pm_up, hne]
  rw [e]
  exact h j hj
theorem pm_fr.tr {ws w1 : List Nat} {V V1 V2 : pm_M} (h : pm_fr ws V V1) (h1 : pm_fr w1 V1 V2) (hw : w1.all (fun k => ws.contains k) = true) : pm_fr ws V V2 := by
  intro j hj
  rw [h1 j (fun q => hj ?_), h j hj]
  have := List.all_eq_true.mp hw j q
  simpa using this
theorem pm_fr.ok {ws : List Nat} {a b : Nat} {V V' : pm_M} (h : pm_fr ws V V') (hV : pm_ok a b V) (hw : ws.all (fun k => !(decide (a ≤ k) && decide (k < b))) = true) : pm_ok a b V' := by
  refine hV.eq (fun k h1 h2 => h k (fun q => ?_))
  have := List.all_eq_true.mp hw k q
  simp at this
  omega
theorem pm_clr_s {V : pm_M} {k i : Nat} {x : Nat → Int} : pm_clr V k x k i = x i := by simp [pm_clr]
theorem pm_clr_c {V : pm_M} {k a i : Nat} {x : Nat → Int} (h : a ≠ k) : pm_clr V k x a i = V a i := by simp [pm_clr, h]
/-- fewer locals, in another order -/
theorem pm_lvsub {X : pm_X} {pc : Nat} {lv lv' : pm_L} {st : List pm_V} {n : Nat} {V : pm_M} (ks : List Nat) (hl : ks.filterMap (fun k => lv[k]?) = lv') (k : pm_J X pc lv' st n V) : pm_J X pc lv st n V := by
  obtain ⟨p, l, e, R, s, m, args, below, meth, c, Q, G, nl, n0, n1⟩ := X
  intro d0 H locs ls h1 h2 h3 h4 h5 h6
  refine k d0 H locs ls h1 h2 h3 (lv_sub h4 ks ?_) h5 h6
  subst hl
  simp only [lv_pick, pm_lvs, List.map_filterMap]
  congr 1
  funext a
  rw [List.getElem?_map]
/-- a contract of a method that makes nothing, in the whole world -/
abbrev pm_K (d : Nat) (y : MethodName) (cc : ByteArray) (maxL : Nat) (ret : Option FieldType) (pre : List pm_V → pm_M → Prop) (post : List pm_V → pm_M → Option pm_V → pm_M → Prop) : Prop := pm_MT d y cc maxL ret 118 118 pre post
theorem pm_nar0 {x : Int} : narrow .int (.int (Int32.ofInt x)) = .int (Int32.ofInt x) := rfl
theorem pm_narZ {x : Int} (h : x = 0 ∨ x = 1) : narrow .boolean (.int (Int32.ofInt x)) = .int (Int32.ofInt x) := by
  rcases h with rfl | rfl <;> rfl
