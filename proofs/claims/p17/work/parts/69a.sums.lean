/-! THE TWO READERS OF SUMS GO ONE WAY: one automaton over the tokens -/
def su_R (V W : pm_M) : Prop := sm_T V W ∧ sm_K V W
theorem su_R.up {V W V1 : pm_M} (h : su_R V W) (h1 : V1 1 = V 1) (h2 : V1 2 = V 2) (h3 : V1 3 = V 3) : su_R V1 W := ⟨h.1.up h1 h2 rfl rfl, h.2.up h1 h3 rfl rfl rfl rfl⟩
theorem su_R.upr {V W W1 : pm_M} (h : su_R V W) (h0 : W1 91 = W 91) (h1 : W1 90 1 = W 90 1) (h2 : W1 90 2 = W 90 2) (h3 : W1 90 3 = W 90 3) (h4 : W1 90 4 = W 90 4) (h5 : W1 90 5 = W 90 5) : su_R V W1 := ⟨h.1.up rfl rfl h0 h1, h.2.up rfl rfl h2 h3 h4 h5⟩
theorem su_nx {V W : pm_M} (h : su_R V W) : ∃ V1 W1, F_X9_step V = (0, V1) ∧ F_X12_leads W = (0, W1) ∧ su_R V1 W1 ∧ (∀ k, k ≠ 3 → V1 k = V k) ∧ tk_f9 W W1 ∧ V 3 4 ≤ V1 3 2 := by
  obtain ⟨V1, W1, a1, a2, a3, a4, a5, a6, a7⟩ := sm_nx h.1 h.2
  exact ⟨V1, W1, a1, a2, ⟨a5, a6⟩, a3, a4, a7⟩
abbrev su_X : Type := pm_M × pm_M
noncomputable def su_st (x : su_X) : su_X := ((F_X9_step x.1).2, (F_X12_leads x.2).2)
theorem su_st_x {x : su_X} (h : su_R x.1 x.2) : su_R (su_st x).1 (su_st x).2 := by
  obtain ⟨V1, W1, a1, a2, a3, -, -, -⟩ := su_nx h
  unfold su_st
  rw [a1, a2]
  exact a3
theorem su_st_c {x : su_X} {V : pm_M} (h : su_R V x.2) : ∃ V1, F_X9_step V = (0, V1) ∧ su_R V1 (su_st x).2 ∧ (∀ k, k ≠ 3 → V1 k = V k) ∧ V 3 4 ≤ V1 3 2 := by
  obtain ⟨V1, W1, a1, a2, a3, a4, -, a6⟩ := su_nx h
  refine ⟨V1, a1, ?_, a4, a6⟩
  unfold su_st
  rw [a2]
  exact a3
theorem su_st_r {x : su_X} {W : pm_M} (h : su_R x.1 W) : ∃ W1, F_X12_leads W = (0, W1) ∧ su_R (su_st x).1 W1 ∧ tk_f9 W W1 ∧ W 90 2 ≤ W1 90 4 := by
  obtain ⟨V1, W1, a1, a2, a3, -, a5, a6⟩ := su_nx h
  have l0 := h.2.ln
  have l1 := a3.2.ln
  refine ⟨W1, a2, ?_, a5, by omega⟩
  unfold su_st
  rw [a1]
  exact a3
def su_g (c : Int) (V : pm_M) : Prop := V 3 1 = 3 ∧ V 3 3 = c
def su_at (V : pm_M) : Prop := (V 3 1 = 2 ∧ 0 ≤ V 3 3 ∧ V 3 3 ≤ 9999) ∨ (V 3 1 = 1 ∧ (V 3 3 = 499967947364 ∨ V 3 3 = 31084793213183332 ∨ V 3 3 = 508675318629 ∨ V 3 3 = 1717658469 ∨ V 3 3 = 474315584357 ∨ V 3 3 = 1684107883 ∨ V 3 3 = 1818326117))
theorem su_g_one {V V1 W : pm_M} (h : su_R V W) (h1 : su_R V1 W) {c : Int} (g : su_g c V) : su_g c V1 := by
  obtain ⟨_, _, _, _, _, a, _, _, b, _⟩ := h.2.flat
  obtain ⟨_, _, _, _, _, a1, _, _, b1, _⟩ := h1.2.flat
  have k := a1.mpr (a.mp g.1)
  exact ⟨k, ((b g.1).1.trans (b1 k).1.symm).symm.trans g.2⟩
theorem su_g_same {V V1 W : pm_M} (h : su_R V W) (h1 : su_R V1 W) (c : Int) : su_g c V ↔ su_g c V1 := ⟨su_g_one h h1, su_g_one h1 h⟩
theorem su_min {a b : Int} (e : min a 100000 = min b 100000) (h1 : 0 ≤ a) (h2 : a ≤ 9999) : 0 ≤ b ∧ b ≤ 9999 := by omega
theorem su_at_one {V V1 W : pm_M} (h : su_R V W) (h1 : su_R V1 W) (g : su_at V) : su_at V1 := by
  obtain ⟨a, b, c, d, _⟩ := h.2.flat
  obtain ⟨a1, b1, c1, d1, _⟩ := h1.2.flat
  rcases g with ⟨p, q1, q2⟩ | ⟨p, q⟩
  · have k := c1.mpr (c.mp p)
    have m := su_min ((d p).trans (d1 k).symm) q1 q2
    exact Or.inl ⟨k, m.1, m.2⟩
  · have k := a1.mpr (a.mp p)
    rw [(b p).trans (b1 k).symm] at q
    exact Or.inr ⟨k, q⟩
theorem su_at_same {V V1 W : pm_M} (h : su_R V W) (h1 : su_R V1 W) : su_at V ↔ su_at V1 := ⟨su_at_one h h1, su_at_one h1 h⟩
theorem su_end {V W : pm_M} (h : su_R V W) (h5 : 500 ≤ V 3 2) : V 3 1 = 0 := by
  have t := h.1.2.2.1
  have l := h.2.ln
  have f := h.2.flat.2.2.2.2.2.2.2.2.2.2.2.2.2.2.2
  rcases Int.lt_trichotomy (V 3 1) 0 with q | q | q
  · have := f (by omega)
    omega
  · exact q
  · have := f (by omega)
    omega
theorem su_len {V W : pm_M} (h : su_R V W) (h5 : V 3 1 ≠ 0) : V 3 2 + 1 ≤ V 3 4 := h.2.flat.2.2.2.2.2.2.2.2.2.2.2.2.2.2.2 h5
theorem su_g_n {V : pm_M} {c c1 : Int} (g : su_g c V) (h : c ≠ c1) : ¬ su_g c1 V := fun q => h (g.2.symm.trans q.2)
theorem su_g_at {V : pm_M} {c : Int} (g : su_g c V) : ¬ su_at V := by
  have := g.1
  rintro (⟨p, -⟩ | ⟨p, -⟩) <;> omega
/-- the automaton: before an operand (true) or behind one, so many brackets not closed -/
noncomputable def su_if {A : Type} (p : Prop) (a b : A) : A := @ite A p (Classical.propDecidable p) a b
theorem su_ifp {A : Type} {p : Prop} {a b : A} (h : p) : su_if p a b = a := @if_pos p (Classical.propDecidable p) h A a b
theorem su_ifn {A : Type} {p : Prop} {a b : A} (h : ¬ p) : su_if p a b = b := @if_neg p (Classical.propDecidable p) h A a b
noncomputable def su_au : Nat → Bool → Nat → su_X → Option (Bool × su_X)
  | 0, _, _, _ => none
  | n + 1, true, d, x => su_if (su_at x.1) (su_au n false d (su_st x)) (su_if (su_g 40 x.1 ∧ d < 8) (su_au n true (d + 1) (su_st x)) (some (false, x)))
  | n + 1, false, d, x => su_if (su_g 42 x.1 ∨ su_g 43 x.1 ∨ su_g 45 x.1) (su_au n true d (su_st x)) (su_if (su_g 41 x.1 ∧ 0 < d) (su_au n false (d - 1) (su_st x)) (su_if (d = 0) (some (true, x)) (some (false, x))))
theorem su_mono : ∀ (n : Nat) (s : Bool) (d : Nat) (x : su_X) (r : Bool × su_X), su_au n s d x = some r → ∀ j, su_au (n + j) s d x = some r := by
  intro n
  induction n with
  | zero => intro s d x r h; cases h
  | succ n ih =>
    intro s d x r h j
    rw [show n + 1 + j = (n + j) + 1 by omega]
    cases s
    · by_cases c1 : su_g 42 x.1 ∨ su_g 43 x.1 ∨ su_g 45 x.1
      · rw [su_au, su_ifp c1] at h ⊢
        exact ih _ _ _ _ h j
      · by_cases c2 : su_g 41 x.1 ∧ 0 < d
        · rw [su_au, su_ifn c1, su_ifp c2] at h ⊢
          exact ih _ _ _ _ h j
        · rw [su_au, su_ifn c1, su_ifn c2] at h ⊢
          exact h
    · by_cases c1 : su_at x.1
      · rw [su_au, su_ifp c1] at h ⊢
        exact ih _ _ _ _ h j
      · by_cases c2 : su_g 40 x.1 ∧ d < 8
        · rw [su_au, su_ifn c1, su_ifp c2] at h ⊢
          exact ih _ _ _ _ h j
        · rw [su_au, su_ifn c1, su_ifn c2] at h ⊢
          exact h
theorem su_det {n m : Nat} {s : Bool} {d : Nat} {x : su_X} {r r1 : Bool × su_X} (h : su_au n s d x = some r) (h1 : su_au m s d x = some r1) : r = r1 := by
  have a := su_mono n s d x r h m
  have b := su_mono m s d x r1 h1 n
  rw [show m + n = n + m by omega, a] at b
  exact Option.some.inj b
def su_to (s : Bool) (d : Nat) (x : su_X) (s1 : Bool) (d1 : Nat) (x1 : su_X) : Prop := ∀ n r, su_au n s1 d1 x1 = some r → ∃ m, su_au m s d x = some r
theorem su_to.rf {s : Bool} {d : Nat} {x : su_X} : su_to s d x s d x := fun n _ h => ⟨n, h⟩
theorem su_to.tr {s s1 s2 : Bool} {d d1 d2 : Nat} {x x1 x2 : su_X} (h : su_to s d x s1 d1 x1) (h1 : su_to s1 d1 x1 s2 d2 x2) : su_to s d x s2 d2 x2 := fun n r e => by
  obtain ⟨m, hm⟩ := h1 n r e
  exact h m r hm
def su_fail (s : Bool) (d : Nat) (x xf : su_X) : Prop := ∃ m, su_au m s d x = some (false, xf)
theorem su_to.fail {s s1 : Bool} {d d1 : Nat} {x x1 xf : su_X} (h : su_to s d x s1 d1 x1) (h1 : su_fail s1 d1 x1 xf) : su_fail s d x xf := by
  obtain ⟨m, hm⟩ := h1
  exact h m _ hm
theorem su_to_at {d : Nat} {x : su_X} (h : su_at x.1) : su_to true d x false d (su_st x) := fun n r e => ⟨n + 1, by rw [su_au, su_ifp h]; exact e⟩
theorem su_to_op {d : Nat} {x : su_X} (h : su_g 40 x.1) (hd : d < 8) : su_to true d x true (d + 1) (su_st x) := fun n r e => ⟨n + 1, by rw [su_au, su_ifn (su_g_at h), su_ifp ⟨h, hd⟩]; exact e⟩
theorem su_to_bin {d : Nat} {x : su_X} (h : su_g 42 x.1 ∨ su_g 43 x.1 ∨ su_g 45 x.1) : su_to false d x true d (su_st x) := fun n r e => ⟨n + 1, by rw [su_au, su_ifp h]; exact e⟩
theorem su_no41 {V : pm_M} (h : su_g 41 V) : ¬ (su_g 42 V ∨ su_g 43 V ∨ su_g 45 V) := by
  rintro (q | q | q)
  · exact su_g_n h (by decide) q
  · exact su_g_n h (by decide) q
  · exact su_g_n h (by decide) q
theorem su_to_cl {d : Nat} {x : su_X} (h : su_g 41 x.1) : su_to false (d + 1) x false d (su_st x) := fun n r e => ⟨n + 1, by rw [su_au, su_ifn (su_no41 h), su_ifp ⟨h, by omega⟩]; exact e⟩
theorem su_fail_E {d : Nat} {x : su_X} (h : ¬ su_at x.1) (h1 : ¬ (su_g 40 x.1 ∧ d < 8)) : su_fail true d x x := ⟨1, by rw [su_au, su_ifn h, su_ifn h1]⟩
theorem su_fail_A {d : Nat} {x : su_X} (h : ¬ (su_g 42 x.1 ∨ su_g 43 x.1 ∨ su_g 45 x.1)) (h1 : ¬ su_g 41 x.1) (hd : d ≠ 0) : su_fail false d x x := ⟨1, by rw [su_au, su_ifn h, su_ifn (fun q => h1 q.1), su_ifn hd]⟩
theorem su_done {x : su_X} (h : ¬ (su_g 42 x.1 ∨ su_g 43 x.1 ∨ su_g 45 x.1)) : su_au 1 false 0 x = some (true, x) := by rw [su_au, su_ifn h, su_ifn (fun q => absurd q.2 (by decide)), su_ifp rfl]
