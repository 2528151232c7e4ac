/-! RELATIONS OF THE REFERENCE, MORE OF THEM -/
theorem pm_h3.keep {V : pm_M} {n a b c d e : Int} (h : pm_h3 V) (en : V 90 25 = n) (h0 : 0 ≤ n) (h1 : a % 10 < V 90 16) (h2 : a / 10 % 10 < V 90 16) (h3 : d < V 90 16) : pm_h3 (pm_up (pm_up (pm_up (pm_up (pm_up (pm_up V 101 (5 * n).toNat a) 101 (5 * n + 1).toNat b) 101 (5 * n + 2).toNat c) 101 (5 * n + 3).toNat d) 101 (5 * n + 4).toNat e) 90 25 (n + 1)) := by
  intro k k0 k1
  rw [pm_up_s] at k1
  rw [pm_up_i (a := 90) (j := 16) (by decide), pm_up_c (a := 90) (by decide), pm_up_c (a := 90) (by decide), pm_up_c (a := 90) (by decide), pm_up_c (a := 90) (by decide), pm_up_c (a := 90) (by decide)]
  rw [pm_up_c (a := 101) (k := 90) (by decide), pm_up_c (a := 101) (k := 90) (by decide)]
  by_cases hk : k = n
  · subst hk
    rw [pm_up_i (i := (5 * k + 4).toNat) (by omega), pm_up_i (i := (5 * k + 3).toNat) (by omega), pm_up_i (i := (5 * k + 2).toNat) (by omega), pm_up_i (i := (5 * k + 1).toNat) (by omega), pm_up_s]
    rw [pm_up_i (i := (5 * k + 4).toNat) (by omega), pm_up_s]
    exact ⟨h1, h2, h3⟩
  · have hh := h k k0 (by omega)
    rw [pm_up_i (i := (5 * n + 4).toNat) (by omega), pm_up_i (i := (5 * n + 3).toNat) (by omega), pm_up_i (i := (5 * n + 2).toNat) (by omega), pm_up_i (i := (5 * n + 1).toNat) (by omega), pm_up_i (i := (5 * n).toNat) (by omega)]
    rw [pm_up_i (i := (5 * n + 4).toNat) (by omega), pm_up_i (i := (5 * n + 3).toNat) (by omega), pm_up_i (i := (5 * n + 2).toNat) (by omega), pm_up_i (i := (5 * n + 1).toNat) (by omega), pm_up_i (i := (5 * n).toNat) (by omega)]
    exact hh
theorem pm_h3.less {V : pm_M} {n : Int} (h : pm_h3 V) (hn : n ≤ V 90 25) : pm_h3 (pm_up V 90 25 n) := by
  intro k k0 k1
  rw [pm_up_s] at k1
  rw [pm_up_i (a := 90) (j := 16) (by decide), pm_up_c (a := 101) (by decide), pm_up_c (a := 101) (by decide)]
  exact h k k0 (by omega)
theorem pm_sum_le {f : Nat → Int} (n : Nat) (h : ∀ j, j < n → 0 ≤ f j) (j : Nat) (hj : j < n) : f j ≤ pm_sum f n := by
  induction n with
  | zero => omega
  | succ n ih =>
    show f j ≤ pm_sum f n + f n
    by_cases hq : j = n
    · subst hq
      have := pm_sum_ge j fun q hq => h q (by omega)
      omega
    · have h1 := ih (fun q hq => h q (by omega)) (by omega)
      have h2 := h n (by omega)
      omega
/-- the greater, the smaller -/
def pm_mx (x y : Int) : Int := if x ≤ y then y else x
def pm_mn (x y : Int) : Int := if x ≤ y then x else y
theorem pm_mx_of {x y z : Int} (h : x ≤ z ∧ y ≤ z ∧ (z = x ∨ z = y)) : pm_mx x y = z := by
  unfold pm_mx
  split <;> omega
theorem pm_mn_of {x y z : Int} (h : z ≤ x ∧ z ≤ y ∧ (z = x ∨ z = y)) : pm_mn x y = z := by
  unfold pm_mn
  split <;> omega
theorem pm_sum_mono {f : Nat → Int} {n m : Nat} (h : n ≤ m) (hf : ∀ j, j < m → 0 ≤ f j) : pm_sum f n ≤ pm_sum f m := by
  induction m with
  | zero =>
    have e : n = 0 := by omega
    subst e
    exact Int.le_refl _
  | succ m ih =>
    by_cases hq : n = m + 1
    · subst hq
      exact Int.le_refl _
    · have h1 := ih (by omega) (fun j hj => hf j (by omega))
      have h2 := hf m (by omega)
      show pm_sum f n ≤ pm_sum f m + f m
      omega
theorem pm_hv_le (c : Nat → Int) (k : Nat) : pm_hv c k ≤ k := by
  induction k with
  | zero => exact Int.le_refl _
  | succ k ih =>
    show (if c (2 * k) = 7 then (0 : Int) else if c (2 * k) = 0 ∨ c (2 * k) = 1 then pm_hv c k + 1 else if c (2 * k) = 5 ∨ c (2 * k) = 6 then pm_hv c k - 2 else pm_hv c k - 1) ≤ _
    repeat' split
    all_goals omega
/-- a step of the code: what it does to the height and to the lines -/
def pm_cs (c : Nat → Int) (k : Nat) (y z : Int) : Prop :=
  (2 ≤ y → y ≤ 6 → 2 ≤ pm_hv c k) ∧ (y = 1 → 0 ≤ z ∧ z ≤ 6) ∧ (y = 7 → pm_hv c (k + 1) = 0 ∧ pm_la c (k + 1) = pm_la c k + 1) ∧ (y = 0 ∨ y = 1 → pm_hv c (k + 1) = pm_hv c k + 1 ∧ pm_la c (k + 1) = pm_la c k) ∧ (y = 5 ∨ y = 6 → pm_hv c (k + 1) = pm_hv c k - 2 ∧ pm_la c (k + 1) = pm_la c k) ∧ (2 ≤ y → y ≤ 4 → pm_hv c (k + 1) = pm_hv c k - 1 ∧ pm_la c (k + 1) = pm_la c k)
theorem pm_cs_of {c : Nat → Int} {N k : Nat} {l y z : Int} (hw : pm_wc c N) (hl : pm_la c N = l) (hk : k ≤ N) (hlt : pm_la c k < l) (ey : c (2 * k) = y) (ez : c (2 * k + 1) = z) : k < N ∧ 0 ≤ pm_hv c k ∧ pm_hv c k ≤ k ∧ pm_cs c k y z := by
  have hkN : k < N := by
    rcases Nat.lt_or_ge k N with h | h
    · exact h
    · have e : k = N := by omega
      subst e
      omega
  have h1 := hw k hkN
  rw [ey, ez] at h1
  have e1 : pm_hv c (k + 1) = (if y = 7 then 0 else if y = 0 ∨ y = 1 then pm_hv c k + 1 else if y = 5 ∨ y = 6 then pm_hv c k - 2 else pm_hv c k - 1) := by rw [← ey]; rfl
  have e2 : pm_la c (k + 1) = pm_la c k + (if y = 7 then 1 else 0) := by rw [← ey]; rfl
  refine ⟨hkN, h1.1, pm_hv_le c k, h1.2.1, h1.2.2, ?_, ?_, ?_, ?_⟩
  · intro q
    rw [e1, e2, if_pos q, if_pos q]
    exact ⟨rfl, rfl⟩
  · intro q
    have h7 : ¬ y = 7 := by omega
    rw [e1, e2, if_neg h7, if_neg h7, if_pos q]
    exact ⟨rfl, by omega⟩
  · intro q
    have h7 : ¬ y = 7 := by omega
    have h0 : ¬ (y = 0 ∨ y = 1) := by omega
    rw [e1, e2, if_neg h7, if_neg h7, if_neg h0, if_pos q]
    exact ⟨rfl, by omega⟩
  · intro q1 q2
    have h7 : ¬ y = 7 := by omega
    have h0 : ¬ (y = 0 ∨ y = 1) := by omega
    have h5 : ¬ (y = 5 ∨ y = 6) := by omega
    rw [e1, e2, if_neg h7, if_neg h7, if_neg h0, if_neg h5]
    exact ⟨rfl, by omega⟩
/-- what the images hold speaks of sounds -/
def pm_h4 (V : pm_M) : Prop := ∀ m : Int, 0 ≤ m → m ≤ 2 → V 102 m.toNat = 1 → ∀ k : Int, 0 ≤ k → k < V 105 m.toNat → V 106 (300 * m + 5 * k).toNat % 10 < V 90 16 ∧ V 106 (300 * m + 5 * k).toNat / 10 % 10 < V 90 16 ∧ V 106 (300 * m + (5 * k + 3)).toNat < V 90 16
theorem pm_h4.fr {V V' : pm_M} (h : pm_h4 V) (h1 : V' 90 16 = V 90 16) (h2 : V' 102 = V 102) (h3 : V' 105 = V 105) (h4 : V' 106 = V 106) : pm_h4 V' := by
  unfold pm_h4
  rw [h1, h2, h3, h4]
  exact h
/-- an image made -/
theorem pm_h4.image {V V' : pm_M} {a : Int} (h3 : pm_h3 V) (h4 : pm_h4 V) (h0 : 0 ≤ a) (hn : V 90 25 ≤ 60) (e16 : V' 90 16 = V 90 16) (e102 : ∀ i : Nat, i ≠ a.toNat → V' 102 i = V 102 i) (e105 : ∀ i : Nat, i ≠ a.toNat → V' 105 i = V 105 i) (ea : V' 105 a.toNat = V 90 25) (c1 : ∀ q : Nat, q < 300 → V' 106 (300 * a + (q : Int)).toNat = V 101 q) (c2 : ∀ q : Nat, (q : Int) < 300 * a ∨ 300 * a + 300 ≤ (q : Int) → V' 106 q = V 106 q) (hb : ∀ m : Int, 0 ≤ m → m ≤ 2 → V 105 m.toNat ≤ 60) : pm_h4 V' := by
  intro m m0 m2 hm k k0 k1
  rw [e16]
  by_cases q : m = a
  · subst q
    rw [ea] at k1
    have hh := h3 k k0 k1
    have d1 := c1 (5 * k).toNat (by omega)
    have d2 := c1 (5 * k + 3).toNat (by omega)
    rw [show (((5 * k).toNat : Nat) : Int) = 5 * k by omega] at d1
    rw [show (((5 * k + 3).toNat : Nat) : Int) = 5 * k + 3 by omega] at d2
    rw [d1, d2]
    exact hh
  · have n1 : m.toNat ≠ a.toNat := by omega
    rw [e102 _ n1] at hm
    rw [e105 _ n1] at k1
    have hk := hb m m0 m2
    have hh := h4 m m0 m2 hm k k0 k1
    rw [c2 _ (by omega), c2 _ (by omega)]
    exact hh
/-- an image taken back -/
theorem pm_h3.back {V V' : pm_M} {a : Int} (h4 : pm_h4 V) (h0 : 0 ≤ a) (h2 : a ≤ 2) (h1 : V 102 a.toNat = 1) (hn : V 105 a.toNat ≤ 60) (e16 : V' 90 16 = V 90 16) (e25 : V' 90 25 = V 105 a.toNat) (c1 : ∀ q : Nat, q < 300 → V' 101 q = V 106 (300 * a + (q : Int)).toNat) : pm_h3 V' := by
  intro k k0 k1
  rw [e25] at k1
  have hh := h4 a h0 h2 h1 k k0 k1
  have d1 := c1 (5 * k).toNat (by omega)
  have d2 := c1 (5 * k + 3).toNat (by omega)
  rw [show (((5 * k).toNat : Nat) : Int) = 5 * k by omega] at d1
  rw [show (((5 * k + 3).toNat : Nat) : Int) = 5 * k + 3 by omega] at d2
  rw [e16, d1, d2]
  exact hh
