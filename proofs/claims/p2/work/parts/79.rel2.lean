/-! RELATIONS OF THE REFERENCE, MORE OF THEM -/
theorem pm_h3.keep {V : pm_M} {n a b c d e : Int} (h : pm_h3 V) (en : V 90 25 = n) (h0 : 0 ≤ n) (h1 : a % 10 < V 90 16) (h2 : a / 10 % 10 < V 90 16) (h3 : d < V 90 16) : pm_h3 (pm_up (pm_up (pm_up (pm_up (pm_up (pm_up V 101 (5 * n).toNat a) 101 (5 * n + 1).toNat b) 101 (5 * n + 2).toNat c) 101 (5 * n + 3).toNat d) 101 (5 * n + 4).toNat e) 90 25 (n + 1)) := by
  intro k k0 k1
  rw [pm_up_s] at k1
  rw [pm_up_i (a := 90) (j := 16) (by decide), pm_up_c (a := 90) (by decide), pm_up_c (a := 90) (by decide), pm_up_c (a := 90) (by decide), pm_up_c (a := 90) (by decide), pm_up_c (a := 90) (by decide)]
  rw [pm_up_c (a := 101) (k := 90) (by decide), pm_up_c (a := 101) (k := 90) (by decide)]
  by_cases hk : k = n
  · subst hk
    rw [pm_up_i (i := (5 * k + 4).toNat) (by omega), pm_up_i (i := (5 * k + 3).toNat) (by omega), pm_up_i (i := (5 * k + 2).toNat) (by omega), pm_up_i (i := (5 * k + 1).toNat) (by omega), pm_up_s]
    rw [pm_up_i (i := (5 * k + 4).toNat) (by omega), pm_up_s]
    exact ⟨h1, h2, h3⟩
  · have hh := h k k0 (by omega)
    rw [pm_up_i (i := (5 * n + 4).toNat) (by omega), pm_up_i (i := (5 * n + 3).toNat) (by omega), pm_up_i (i := (5 * n + 2).toNat) (by omega), pm_up_i (i := (5 * n + 1).toNat) (by omega), pm_up_i (i := (5 * n).toNat) (by omega)]
    rw [pm_up_i (i := (5 * n + 4).toNat) (by omega), pm_up_i (i := (5 * n + 3).toNat) (by omega), pm_up_i (i := (5 * n + 2).toNat) (by omega), pm_up_i (i := (5 * n + 1).toNat) (by omega), pm_up_i (i := (5 * n).toNat) (by omega)]
    exact hh
theorem pm_h3.less {V : pm_M} {n : Int} (h : pm_h3 V) (hn : n ≤ V 90 25) : pm_h3 (pm_up V 90 25 n) := by
  intro k k0 k1
  rw [pm_up_s] at k1
  rw [pm_up_i (a := 90) (j := 16) (by decide), pm_up_c (a := 101) (by decide), pm_up_c (a := 101) (by decide)]
  exact h k k0 (by omega)
theorem pm_sum_le {f : Nat → Int} (n : Nat) (h : ∀ j, j < n → 0 ≤ f j) (j : Nat) (hj : j < n) : f j ≤ pm_sum f n := by
  induction n with
  | zero => omega
  | succ n ih =>
    show f j ≤ pm_sum f n + f n
    by_cases hq : j = n
    · subst hq
      have := pm_sum_ge j fun q hq => h q (by omega)
      omega
    · have h1 := ih (fun q hq => h q (by omega)) (by omega)
      have h2 := h n (by omega)
      omega
/-- the greater, the smaller -/
def pm_mx (x y : Int) : Int := if x ≤ y then y else x
def pm_mn (x y : Int) : Int := if x ≤ y then x else y
theorem pm_mx_of {x y z : Int} (h : x ≤ z ∧ y ≤ z ∧ (z = x ∨ z = y)) : pm_mx x y = z := by
  unfold pm_mx
  split <;> omega
theorem pm_mn_of {x y z : Int} (h : z ≤ x ∧ z ≤ y ∧ (z = x ∨ z = y)) : pm_mn x y = z := by
  unfold pm_mn
  split <;> omega
