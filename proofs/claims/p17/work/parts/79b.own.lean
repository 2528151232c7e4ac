/-! A ROW OF PEOPLE that stays but for two places -/
def pm_ow (K : Nat → Int) (i j : Nat) (V : pm_M) : Prop := ∀ q : Nat, q ≠ i → q ≠ j → V 100 q = K q
theorem pm_ow.fr {K : Nat → Int} {i j : Nat} {V V' : pm_M} (h : pm_ow K i j V) (e : V' 100 = V 100) : pm_ow K i j V' := fun q h1 h2 => by rw [e]; exact h q h1 h2
theorem pm_ow.up {K : Nat → Int} {i j k : Nat} {x : Int} {V : pm_M} (h : pm_ow K i j V) (hk : k = i ∨ k = j) : pm_ow K i j (pm_up V 100 k x) := fun q h1 h2 => by
  rw [pm_up_i (by rcases hk with rfl | rfl <;> assumption)]
  exact h q h1 h2
theorem pm_ow.ot {K : Nat → Int} {i j k a : Nat} {x : Int} {V : pm_M} (h : pm_ow K i j V) (hk : 100 ≠ k) : pm_ow K i j (pm_up V k a x) := fun q h1 h2 => by
  rw [pm_up_c hk]
  exact h q h1 h2
