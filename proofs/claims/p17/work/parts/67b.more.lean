theorem pm_RX.sum {V V1 : pm_M} {h h1 l : Int} (k : pm_RX V h l) (q : pm_wc (V1 107) (V1 90 33).toNat ∧ pm_hv (V1 107) (V1 90 33).toNat = pm_hv (V 107) (V 90 33).toNat + 1 ∧ pm_la (V1 107) (V1 90 33).toNat = pm_la (V 107) (V 90 33).toNat) (e : h + 1 = h1) : pm_RX V1 h1 l := ⟨q.1, by rw [q.2.1, k.2.1]; exact e, by rw [q.2.2]; exact k.2.2⟩
theorem pm_RLn.mk {V : pm_M} {x l : Int} (k : pm_RX V 0 l) (h : x = l) : pm_RLn (pm_up V 90 32 x) := by
  subst h
  unfold pm_RLn
  rw [pm_up_s]
  exact k.fr (pm_up_f (by decide)) (pm_up_i (by decide))
theorem pm_RLn.zero {V : pm_M} (h1 : V 90 32 = 0) (h2 : V 90 33 = 0) : pm_RLn V := by
  unfold pm_RLn pm_RX
  rw [h1, h2]
  exact ⟨fun k hk => absurd hk (Nat.not_lt_zero k), rfl, rfl⟩
theorem pm_r1.mk {V : pm_M} (k : pm_RLn V) (h0 : 0 ≤ V 90 33 ∧ V 90 33 ≤ 500) (hl : V 90 35 = V 90 32) (hc : ∀ q : Nat, (q : Int) < 2 * V 90 33 → V 108 q = V 107 q) : pm_r1 V := by
  have h : ∀ i, i < 2 * (V 90 33).toNat → V 108 i = V 107 i := fun i hi => hc i (by omega)
  exact ⟨(V 90 33).toNat, by omega, pm_wc_c h k.1, by rw [pm_la_c h, hl]; exact k.2.2⟩
