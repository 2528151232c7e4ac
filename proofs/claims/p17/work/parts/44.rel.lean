/-! RELATIONS between the reference's cells -/
theorem pm_up_get {V : pm_M} {k : Nat} {i a x : Int} {p : Int → Prop} (h0 : 0 ≤ i) (h1 : 0 ≤ a) (hx : a = i → p x) (ho : a ≠ i → p (V k a.toNat)) : p (pm_up V k i.toNat x k a.toNat) := by
  by_cases h : a = i
  · rw [h, pm_up_s]
    exact hx h
  · rw [pm_up_i (by omega)]
    exact ho h
theorem pm_mul1 {x y : Int} (hx : 1 ≤ x) (hy : 1 ≤ y) : 1 ≤ x * y := by
  have := Int.mul_pos (show 0 < x by omega) (show 0 < y by omega)
  omega
def pm_sum (f : Nat → Int) : Nat → Int
  | 0 => 0
  | n + 1 => pm_sum f n + f n
theorem pm_sum_ge {f : Nat → Int} (n : Nat) (h : ∀ j, j < n → 0 ≤ f j) : 0 ≤ pm_sum f n := by
  induction n with
  | zero => exact Int.le_refl _
  | succ n ih =>
    have h1 := ih fun j hj => h j (by omega)
    have h2 := h n (by omega)
    show 0 ≤ pm_sum f n + f n
    omega
theorem pm_sum_pos {f : Nat → Int} (n : Nat) (h : ∀ j, j < n → 0 ≤ f j) (j : Nat) (hj : j < n) (hp : 1 ≤ f j) : 1 ≤ pm_sum f n := by
  induction n with
  | zero => exact absurd hj (Nat.not_lt_zero _)
  | succ n ih =>
    show 1 ≤ pm_sum f n + f n
    by_cases e : j = n
    · subst e
      have := pm_sum_ge j fun q hq => h q (by omega)
      omega
    · have h1 := ih (fun q hq => h q (by omega)) (by omega)
      have h2 := h n (by omega)
      omega
/-- every sound's hold is at least 1 -/
def pm_h1 (V : pm_M) : Prop := ∀ j : Int, 0 ≤ j → j < V 90 16 → 1 ≤ V 97 (3 * j + 2).toNat
theorem pm_h1.fr {V V' : pm_M} (h : pm_h1 V) (h1 : V' 90 16 = V 90 16) (h2 : V' 97 = V 97) : pm_h1 V' := by
  unfold pm_h1
  rw [h1, h2]
  exact h
/-- what is learnt is a sound -/
def pm_h2 (V : pm_M) : Prop := ∀ k : Int, 0 ≤ k → k < V 90 21 → 0 ≤ V 99 (3 * k + 2).toNat ∧ V 99 (3 * k + 2).toNat < V 90 16
theorem pm_h2.fr {V V' : pm_M} (h : pm_h2 V) (h1 : V' 90 16 = V 90 16) (h2 : V' 90 21 = V 90 21) (h3 : V' 99 = V 99) : pm_h2 V' := by
  unfold pm_h2
  rw [h1, h2, h3]
  exact h
/-- the answers speak of sounds -/
def pm_h3 (V : pm_M) : Prop := ∀ k : Int, 0 ≤ k → k < V 90 25 → V 101 (5 * k).toNat % 10 < V 90 16 ∧ V 101 (5 * k).toNat / 10 % 10 < V 90 16 ∧ V 101 (5 * k + 3).toNat < V 90 16
theorem pm_h3.fr {V V' : pm_M} (h : pm_h3 V) (h1 : V' 90 16 = V 90 16) (h2 : V' 90 25 = V 90 25) (h3 : V' 101 = V 101) : pm_h3 V' := by
  unfold pm_h3
  rw [h1, h2, h3]
  exact h
/-- a trial is worked out -/
def pm_w1 (V : pm_M) : Prop := 0 ≤ V 90 48 ∧ V 90 48 < V 90 16 ∧ 0 ≤ V 90 49 ∧ V 90 49 < V 90 16 ∧ 1 ≤ V 110 (V 90 48).toNat ∧ 1 ≤ V 111 (V 90 49).toNat
theorem pm_w1.fr {V V' : pm_M} (h : pm_w1 V) (h1 : V' 90 16 = V 90 16) (h2 : V' 90 48 = V 90 48) (h3 : V' 90 49 = V 90 49) (h4 : V' 110 = V 110) (h5 : V' 111 = V 111) : pm_w1 V' := by
  unfold pm_w1
  rw [h1, h2, h3, h4, h5]
  exact h
/-- it is weighed -/
def pm_w2 (V : pm_M) : Prop := 1 ≤ V 90 51 ∧ V 90 51 = pm_sum (V 112) (V 90 16).toNat
theorem pm_w2.fr {V V' : pm_M} (h : pm_w2 V) (h1 : V' 90 16 = V 90 16) (h2 : V' 90 51 = V 90 51) (h3 : V' 112 = V 112) : pm_w2 V' := by
  unfold pm_w2
  rw [h1, h2, h3]
  exact h
/-- some sound weighs something -/
def pm_pos (V : pm_M) : Prop := ∃ j : Nat, (j : Int) < V 90 16 ∧ 1 ≤ V 112 j
theorem pm_pos.fr {V V' : pm_M} (h : pm_pos V) (h1 : V' 90 16 = V 90 16) (h2 : V' 112 = V 112) : pm_pos V' := by
  unfold pm_pos
  rw [h1, h2]
  exact h
theorem pm_mulpos {x y : Int} (hx : 0 ≤ x) (hy : 0 ≤ y) (h : 1 ≤ x * y) : 1 ≤ x ∧ 1 ≤ y := by
  rcases Int.lt_or_le 0 x with h1 | h1
  · rcases Int.lt_or_le 0 y with h2 | h2
    · exact ⟨by omega, by omega⟩
    · have e : y = 0 := by omega
      rw [e, Int.mul_zero] at h
      omega
  · have e : x = 0 := by omega
    rw [e, Int.zero_mul] at h
    omega
/-- where the sum of the products isn't 0, some sound is heard and seen -/
def pm_w3 (V : pm_M) : Prop := 1 ≤ V 90 46 → ∃ q : Nat, (q : Int) < V 90 16 ∧ 1 ≤ V 110 q ∧ 1 ≤ V 111 q
theorem pm_w3.fr {V V' : pm_M} (h : pm_w3 V) (h1 : V' 90 16 = V 90 16) (h2 : V' 90 46 = V 90 46) (h3 : V' 110 = V 110) (h4 : V' 111 = V 111) : pm_w3 V' := by
  unfold pm_w3
  rw [h1, h2, h3, h4]
  exact h
theorem pm_far0 {lo hi a y : Int} (h : lo ≤ y ∧ y ≤ hi ∧ (0 ≤ a → y = a) ∧ (a < 0 → y = -a)) (ha : a = 0) : y = 0 := by
  have h1 := h.2.2.1 (by omega)
  omega
