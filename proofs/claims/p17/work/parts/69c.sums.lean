theorem su_sum {rc d : Nat} (hr : 4 ≤ rc) {f : pm_M → Int × pm_M} (hf : su_fn rc (fun _ => True) d f) : su_fn rc (fun V => ¬ (su_g 42 V ∨ su_g 43 V ∨ su_g 45 V)) d (F_X3_readSum rc f) := by
  intro V x h hx
  have hp := su_prod hr hf
  obtain ⟨y, V1, e, fr, c⟩ := hp V x h hx
  rw [F_X3_readSum_eq]
  simp only [pf_call]
  rw [e]
  simp only []
  rcases c with ⟨c, c1⟩ | ⟨c, x1, c1, c2, c3, c4, c5⟩
  · subst c
    rw [if_neg (fun q => q rfl)]
    exact ⟨0, V1, rfl, fr, Or.inl ⟨rfl, c1⟩⟩
  · subst c
    rw [if_pos (by decide)]
    refine su_ex (C := fun y V1 => su_f rc V V1 ∧ ((y = 0 ∧ ∃ xf, su_R V1 xf.2 ∧ su_R xf.1 xf.2 ∧ su_fail true d x xf) ∨ (y = 1 ∧ ∃ x1, su_R V1 x1.2 ∧ su_R x1.1 x1.2 ∧ ¬ (su_g 42 x1.1 ∨ su_g 43 x1.1 ∨ su_g 45 x1.1) ∧ V 3 2 + 1 ≤ V1 3 2 ∧ su_to true d x false d x1))) ?_
    refine pf_val_ind2 (fun (q : Int × pm_M) => 0 ≤ q.1 ∧ q.1 ≤ 500 ∧ q.1 ≤ q.2 3 2 ∧ su_f rc V q.2 ∧ V 3 2 + 1 ≤ q.2 3 2 ∧ ∃ z, su_R q.2 z.2 ∧ su_R z.1 z.2 ∧ ¬ su_g 42 z.1 ∧ su_to true d x false d z) (fun (o : Int × pm_M) => su_f rc V o.2 ∧ ((o.1 = 0 ∧ ∃ xf, su_R o.2 xf.2 ∧ su_R xf.1 xf.2 ∧ su_fail true d x xf) ∨ (o.1 = 1 ∧ ∃ x1, su_R o.2 x1.2 ∧ su_R x1.1 x1.2 ∧ ¬ (su_g 42 x1.1 ∨ su_g 43 x1.1 ∨ su_g 45 x1.1) ∧ V 3 2 + 1 ≤ o.2 3 2 ∧ su_to true d x false d x1))) (fun q => (500 - q.1).toNat) ?_ (0, V1) ⟨Int.le_refl _, (show (0 : Int) ≤ 500 by decide), c1.2.ln.2.2.2.2.1, fr, c4, x1, c1, c2, c3, c5⟩
    rintro ⟨k, U⟩ ⟨k0, k1, k2, fU, pU, z, z1, z2, z4, z3⟩
    dsimp only at k0 k1 k2 fU pU z1
    -- an operator: a product behind it
    have op : ∀ (c : Int), (U 3 1 = 3 ∧ U 3 3 = c) → (c = 43 ∨ c = 45) → ¬ 500 ≤ k → ∃ U1 y2 U2, F_X9_step U = (0, U1) ∧ F_X3_readProduct rc f U1 = (y2, U2) ∧ su_f rc V U2 ∧ ((y2 = 0 ∧ ∃ xf, su_R U2 xf.2 ∧ su_R xf.1 xf.2 ∧ su_fail true d x xf) ∨ (y2 ≠ 0 ∧ k + 1 ≤ U2 3 2 ∧ V 3 2 + 1 ≤ U2 3 2 ∧ ∃ z, su_R U2 z.2 ∧ su_R z.1 z.2 ∧ ¬ su_g 42 z.1 ∧ su_to true d x false d z)) := by
      intro c g hc hk
      obtain ⟨U1, e1, h1, f1, p1⟩ := su_st_c z1
      have l := su_len z1 (su_gn g)
      have gz : su_g c z.1 := su_g_one z1 z2 g
      have to1 : su_to true d x true d (su_st z) := z3.tr (su_to_bin (by
        rcases hc with hc | hc
        · subst hc; exact Or.inr (Or.inl gz)
        · subst hc; exact Or.inr (Or.inr gz)))
      obtain ⟨y2, U2, e2, f2, c2⟩ := hp U1 (su_st z) h1 (su_st_x z2)
      refine ⟨U1, y2, U2, e1, e2, (fU.tr (su_f.st hr f1)).tr f2, ?_⟩
      rcases c2 with ⟨c2, xf, d1, d2, c3⟩ | ⟨c2, x2, c3, c4, c5, c6, c7⟩
      · exact Or.inl ⟨c2, xf, d1, d2, to1.fail c3⟩
      · exact Or.inr ⟨by omega, by omega, by omega, x2, c3, c4, c5, to1.tr c7⟩
    simp only [pf_let, c_isSign, su_ite]
    by_cases q : 500 ≤ k
    · rw [if_pos q]
      have u0 := su_end z1 (by omega)
      have no : ∀ c, ¬ su_g c z.1 := fun c g => su_gn (su_g_one z2 z1 g) u0
      exact Or.inr ⟨_, rfl, fU, Or.inr ⟨rfl, z, z1, z2, (by rintro (g | g | g) <;> exact no _ g), pU, z3⟩⟩
    · rw [if_neg q]
      by_cases g : U 3 1 = 3 ∧ U 3 3 = 43
      · rw [if_pos (fun q => q g)]
        obtain ⟨U1, y2, U2, e1, e2, ff, c2⟩ := op 43 g (Or.inl rfl) q
        rw [e1]
        simp only []
        rw [e2]
        simp only []
        rcases c2 with ⟨c2, c3⟩ | ⟨c2, c3, c4, x2, c5, c6, c7, c8⟩
        · rw [if_neg (fun q => q c2)]
          exact Or.inr ⟨_, rfl, ff, Or.inl ⟨rfl, c3⟩⟩
        · rw [if_pos c2]
          obtain ⟨U3, e3, f3, f4⟩ := c_emit rc (20000 + U 3 3) U2
          rw [e3]
          have e33 := f3 3 (by omega) (by omega)
          refine Or.inl ⟨_, rfl, ⟨by show 0 ≤ k + 1; omega, by show k + 1 ≤ 500; omega, by show k + 1 ≤ U3 3 2; rw [e33]; omega, ff.tr (su_f.em f3 f4), by show V 3 2 + 1 ≤ U3 3 2; rw [e33]; omega, x2, c5.up (f3 1 (by omega) (by omega)) (f3 2 (by omega) (by omega)) e33, c6, c7, c8⟩, by show (500 - (k + 1)).toNat < (500 - k).toNat; omega⟩
      · rw [if_neg (fun q => q g)]
        by_cases g2 : U 3 1 = 3 ∧ U 3 3 = 45
        · rw [if_neg (fun q => q g2)]
          obtain ⟨U1, y2, U2, e1, e2, ff, c2⟩ := op 45 g2 (Or.inr rfl) q
          rw [e1]
          simp only []
          rw [e2]
          simp only []
          rcases c2 with ⟨c2, c3⟩ | ⟨c2, c3, c4, x2, c5, c6, c7, c8⟩
          · rw [if_neg (fun q => q c2)]
            exact Or.inr ⟨_, rfl, ff, Or.inl ⟨rfl, c3⟩⟩
          · rw [if_pos c2]
            obtain ⟨U3, e3, f3, f4⟩ := c_emit rc (20000 + U 3 3) U2
            rw [e3]
            have e33 := f3 3 (by omega) (by omega)
            refine Or.inl ⟨_, rfl, ⟨by show 0 ≤ k + 1; omega, by show k + 1 ≤ 500; omega, by show k + 1 ≤ U3 3 2; rw [e33]; omega, ff.tr (su_f.em f3 f4), by show V 3 2 + 1 ≤ U3 3 2; rw [e33]; omega, x2, c5.up (f3 1 (by omega) (by omega)) (f3 2 (by omega) (by omega)) e33, c6, c7, c8⟩, by show (500 - (k + 1)).toNat < (500 - k).toNat; omega⟩
        · rw [if_pos g2]
          exact Or.inr ⟨_, rfl, fU, Or.inr ⟨rfl, z, z1, z2, (by
            rintro (g3 | g3 | g3)
            · exact z4 g3
            · exact g (su_g_one z2 z1 g3)
            · exact g2 (su_g_one z2 z1 g3)), pU, z3⟩⟩
theorem su_all {rc : Nat} (hr : 4 ≤ rc) : ∀ k, k ≤ 8 → su_fn rc (fun _ => True) (8 - k) (pf_fac rc k) := by
  intro k
  induction k with
  | zero => intro _; exact su_facZ hr
  | succ k ih =>
    intro hk
    have h1 := su_sum hr (ih (by omega))
    rw [show 8 - k = (8 - (k + 1)) + 1 by omega] at h1
    exact su_fac hr (by omega) h1
/-- a sum of the class's, no bracket unclosed -/
theorem su_top {rc : Nat} (hr : 4 ≤ rc) : su_fn rc (fun V => ¬ (su_g 42 V ∨ su_g 43 V ∨ su_g 45 V)) 0 (F_X3_readSum rc (pf_fac rc 8)) := su_sum hr (su_all hr 8 (Nat.le_refl _))
