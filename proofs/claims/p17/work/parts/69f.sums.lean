/-- the reference's sum goes the automaton's way -/
theorem su_ref {W : pm_M} {x : su_X} (h : su_R x.1 W) (hx : su_R x.1 x.2) : ∃ y W1, F_X12_sumHere W = (y, W1) ∧ su_h W W1 ∧ ((y = 0 ∧ ∃ xf, su_R xf.1 W1 ∧ su_R xf.1 xf.2 ∧ su_fail true 0 x xf) ∨ (y = 1 ∧ ∃ x1, su_R x1.1 W1 ∧ su_R x1.1 x1.2 ∧ ¬ (su_g 42 x1.1 ∨ su_g 43 x1.1 ∨ su_g 45 x1.1) ∧ W 90 4 ≤ W1 90 4 ∧ su_to true 0 x false 0 x1)) := by
  rw [su_sum_eq]
  refine su_ex (C := fun y W1 => su_h W W1 ∧ ((y = 0 ∧ ∃ xf, su_R xf.1 W1 ∧ su_R xf.1 xf.2 ∧ su_fail true 0 x xf) ∨ (y = 1 ∧ ∃ x1, su_R x1.1 W1 ∧ su_R x1.1 x1.2 ∧ ¬ (su_g 42 x1.1 ∨ su_g 43 x1.1 ∨ su_g 45 x1.1) ∧ W 90 4 ≤ W1 90 4 ∧ su_to true 0 x false 0 x1))) ?_
  refine pf_val_ind2 (fun (q : Int × Int × pm_M) => su_I9 x W (W 90 4) q.1 q.2.1 q.2.2) (fun (o : Int × pm_M) => su_h W o.2 ∧ ((o.1 = 0 ∧ ∃ xf, su_R xf.1 o.2 ∧ su_R xf.1 xf.2 ∧ su_fail true 0 x xf) ∨ (o.1 = 1 ∧ ∃ x1, su_R x1.1 o.2 ∧ su_R x1.1 x1.2 ∧ ¬ (su_g 42 x1.1 ∨ su_g 43 x1.1 ∨ su_g 45 x1.1) ∧ W 90 4 ≤ o.2 90 4 ∧ su_to true 0 x false 0 x1))) (fun q => 2 * (501 - q.2.2 90 4).toNat + q.2.1.toNat) ?_ (0, 1, pm_up W 90 39 0) ⟨Int.le_refl _, (show (0 : Int) ≤ 8 by decide), su_e.wt.h, by show W 90 4 ≤ pm_up W 90 39 0 90 4; rw [pm_up_i (by decide)]; exact Int.le_refl _, x, su_e.wt.R h, hx, Or.inl ⟨rfl, su_to.rf⟩⟩
  rintro ⟨o, m, U⟩ ⟨o0, o8, hU, pU, z, z1, z2, z3⟩
  dsimp only at o0 o8 hU pU z1 z3
  have pl := su_pl z1
  unfold su_b9
  simp only [pf_let, pf_call]
  rcases z3 with ⟨m1, z3⟩ | ⟨m0, z3, z4, z5⟩
  · subst m1
    rw [if_neg (by decide)]
    rcases su_l13 W (x := x) (W := W) (p := U 90 4 + 1) (o, U) ⟨o0, o8, hU, Int.le_refl _, z, z1, z2, z3⟩ with ⟨o1, m1, U1, k1, k2⟩ | ⟨U1, k1, k2, k3⟩
    · rw [k1]
      obtain ⟨i0, i8, iU, ip, zz, i1, i2, i3⟩ := k2
      have pl1 := su_pl i1
      refine Or.inl ⟨_, rfl, ⟨i0, i8, iU, by show W 90 4 ≤ U1 90 4; omega, zz, i1, i2, i3⟩, ?_⟩
      show 2 * (501 - U1 90 4).toNat + m1.toNat < 2 * (501 - U 90 4).toNat + (1 : Int).toNat
      rcases i3 with ⟨i3, -⟩ | ⟨i3, -⟩ <;> omega
    · rw [k1]
      exact Or.inr ⟨_, rfl, k2, Or.inl ⟨rfl, k3⟩⟩
  · subst m0
    rw [if_pos rfl]
    by_cases qo : o ≤ 0
    · rw [if_pos qo]
      obtain ⟨U1, e1, f1⟩ := su_emp 1 U
      rw [e1]
      have eo : o.toNat = 0 := by omega
      rw [eo] at z3
      have e4 := f1.2 4 (by decide) (by decide)
      exact Or.inr ⟨_, rfl, hU.tr f1.h, Or.inr ⟨rfl, z, f1.R z1, z2, z4, by show W 90 4 ≤ U1 90 4; rw [e4]; exact pU, z3⟩⟩
    · rw [if_neg qo]
      exact Or.inr ⟨_, rfl, hU, Or.inl ⟨rfl, z, z1, z2, z3.fail (su_fail_A z4 (fun q => z5 ⟨q, by omega⟩) (by omega))⟩⟩
