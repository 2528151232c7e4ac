def su_I9 (x : su_X) (W : pm_M) (p o m : Int) (U : pm_M) : Prop := 0 ≤ o ∧ o ≤ 8 ∧ su_h W U ∧ p ≤ U 90 4 ∧ ∃ z, su_R z.1 U ∧ su_R z.1 z.2 ∧ ((m = 1 ∧ su_to true 0 x true o.toNat z) ∨ (m = 0 ∧ su_to true 0 x false o.toNat z ∧ ¬ (su_g 42 z.1 ∨ su_g 43 z.1 ∨ su_g 45 z.1) ∧ ¬ (su_g 41 z.1 ∧ 0 < o)))
theorem su_pl {V U : pm_M} (h : su_R V U) : 0 ≤ U 90 4 ∧ U 90 4 ≤ 500 ∧ (V 3 1 ≠ 0 → U 90 4 + 1 ≤ U 90 2) := by
  have t := h.1.2.2.1
  have l := h.2.ln
  refine ⟨by omega, by omega, fun q => ?_⟩
  have := su_len h q
  omega
theorem su_l115 (V0 : pm_M) {x : su_X} {W : pm_M} {p : Int} : ∀ (q : Int × pm_M), (0 ≤ q.1 ∧ q.1 ≤ 8 ∧ su_h W q.2 ∧ p ≤ q.2 90 4 ∧ ∃ z, su_R z.1 q.2 ∧ su_R z.1 z.2 ∧ su_to true 0 x false q.1.toNat z) → ∃ o1 m1 U1, pf_val (.inr (.inr ((0 : Int), V0))) (su_b115 V0) q = .inr (.inl (o1, m1, U1)) ∧ su_I9 x W p o1 m1 U1 := by
  refine pf_val_ind2 (fun (q : Int × pm_M) => 0 ≤ q.1 ∧ q.1 ≤ 8 ∧ su_h W q.2 ∧ p ≤ q.2 90 4 ∧ ∃ z, su_R z.1 q.2 ∧ su_R z.1 z.2 ∧ su_to true 0 x false q.1.toNat z) (fun (r : (Int × pm_M) ⊕ ((Int × Int × pm_M) ⊕ (Int × pm_M))) => ∃ o1 m1 U1, r = .inr (.inl (o1, m1, U1)) ∧ su_I9 x W p o1 m1 U1) (fun q => (501 - q.2 90 4).toNat) ?_
  rintro ⟨o, U⟩ ⟨o0, o8, hU, pU, z, z1, z2, z3⟩
  dsimp only at o0 o8 hU pU z1 z3
  have pl := su_pl z1
  have g41 := su_rg (c := 41) z1 (by decide)
  have g42 := su_rg (c := 42) z1 (by decide)
  have g43 := su_rg (c := 43) z1 (by decide)
  have g45 := su_rg (c := 45) z1 (by decide)
  -- an operator
  have opr : ∀ (b : Int), (su_g 42 z.1 ∨ su_g 43 z.1 ∨ su_g 45 z.1) → z.1 3 1 ≠ 0 → ∃ y U1 U3, F_X12_rank b U = (y, U) ∧ F_X12_empties y U = (0, U1) ∧ F_X12_leads (pm_up (pm_up U1 109 (U1 90 39 : Int).toNat b) 90 39 (U1 90 39 + 1)) = (0, U3) ∧ su_I9 x W p o 1 U3 := by
    intro b g g0
    obtain ⟨y, e, -⟩ := r_rank b U
    obtain ⟨U1, e1, f1⟩ := su_emp y U
    have f2 : su_e U (pm_up (pm_up U1 109 (U1 90 39 : Int).toNat b) 90 39 (U1 90 39 + 1)) := f1.tr su_e.ps
    obtain ⟨U3, e3, h3, f3, p3⟩ := su_st_r (x := z) (f2.R z1)
    refine ⟨y, U1, U3, e, e1, e3, o0, o8, (hU.tr f2.h).tr (su_h.tk f3), ?_, su_st z, h3, su_st_x z2, Or.inl ⟨rfl, z3.tr (su_to_bin g)⟩⟩
    have := pl.2.2 g0
    rw [f2.2 2 (by decide) (by decide)] at p3
    omega
  -- the end of the operand
  have fin : ¬ (su_g 42 z.1 ∨ su_g 43 z.1 ∨ su_g 45 z.1) → ¬ (su_g 41 z.1 ∧ 0 < o) → su_I9 x W p o 0 U := fun a b => ⟨o0, o8, hU, pU, z, z1, z2, Or.inr ⟨rfl, z3, a, b⟩⟩
  -- what follows an operand that no bracket closes
  unfold su_b115
  simp only [pf_let, pf_call, r_isSign, su_ite]
  by_cases q41r : U 90 3 = 3 ∧ U 90 5 = 41
  · rw [if_neg (fun q => q q41r)]
    have q41 := g41.mp q41r
    by_cases qo : o ≤ 0
    · rw [if_pos qo]
      have n41 : ¬ (su_g 41 z.1 ∧ 0 < o) := fun q => absurd q.2 (by omega)
      by_cases q43 : U 90 3 = 3 ∧ U 90 5 = 43
      · rw [if_neg (fun q => q q43)]
        have w43 := g43.mp q43
        obtain ⟨y, U1, U3, e, e1, e3, i⟩ := opr 2 (Or.inr (Or.inl w43)) (su_gn w43)
        rw [e]
        dsimp only
        rw [e1]
        dsimp only
        rw [e3]
        exact Or.inr ⟨_, rfl, _, _, _, rfl, i⟩
      · rw [if_pos q43]
        by_cases q45 : U 90 3 = 3 ∧ U 90 5 = 45
        · rw [if_neg (fun q => q q45)]
          have w45 := g45.mp q45
          obtain ⟨y, U1, U3, e, e1, e3, i⟩ := opr 3 (Or.inr (Or.inr w45)) (su_gn w45)
          rw [e]
          dsimp only
          rw [e1]
          dsimp only
          rw [e3]
          exact Or.inr ⟨_, rfl, _, _, _, rfl, i⟩
        · rw [if_pos q45]
          by_cases q42 : U 90 3 = 3 ∧ U 90 5 = 42
          · rw [if_neg (fun q => q q42)]
            have w42 := g42.mp q42
            obtain ⟨y, U1, U3, e, e1, e3, i⟩ := opr 4 (Or.inl w42) (su_gn w42)
            rw [e]
            dsimp only
            rw [e1]
            dsimp only
            rw [e3]
            exact Or.inr ⟨_, rfl, _, _, _, rfl, i⟩
          · rw [if_pos q42]
            refine Or.inr ⟨_, rfl, _, _, _, rfl, fin ?_ n41⟩
            rintro (a | a | a)
            · exact q42 (g42.mpr a)
            · exact q43 (g43.mpr a)
            · exact q45 (g45.mpr a)
    · rw [if_neg qo]
      obtain ⟨U1, e1, f1⟩ := su_emp 1 U
      rw [e1]
      dsimp only
      have f2 : su_e U (pm_up U1 90 39 (U1 90 39 - 1)) := f1.tr su_e.wt
      obtain ⟨U3, e3, h3, f3, p3⟩ := su_st_r (x := z) (f2.R z1)
      rw [e3]
      dsimp only
      have pp := pl.2.2 (su_gn q41)
      rw [f2.2 2 (by decide) (by decide)] at p3
      refine Or.inl ⟨_, rfl, ⟨by show 0 ≤ o + -1; omega, by show o + -1 ≤ 8; omega, (hU.tr f2.h).tr (su_h.tk f3), by show p ≤ U3 90 4; omega, su_st z, h3, su_st_x z2, ?_⟩, by show (501 - U3 90 4).toNat < (501 - U 90 4).toNat; omega⟩
      have k := z3
      rw [show o.toNat = (o + -1).toNat + 1 by omega] at k
      exact k.tr (su_to_cl q41)
  · rw [if_pos q41r]
    have n41 : ¬ (su_g 41 z.1 ∧ 0 < o) := fun q => q41r (g41.mpr q.1)
    by_cases q43 : U 90 3 = 3 ∧ U 90 5 = 43
    · rw [if_neg (fun q => q q43)]
      have w43 := g43.mp q43
      obtain ⟨y, U1, U3, e, e1, e3, i⟩ := opr 2 (Or.inr (Or.inl w43)) (su_gn w43)
      rw [e]
      dsimp only
      rw [e1]
      dsimp only
      rw [e3]
      exact Or.inr ⟨_, rfl, _, _, _, rfl, i⟩
    · rw [if_pos q43]
      by_cases q45 : U 90 3 = 3 ∧ U 90 5 = 45
      · rw [if_neg (fun q => q q45)]
        have w45 := g45.mp q45
        obtain ⟨y, U1, U3, e, e1, e3, i⟩ := opr 3 (Or.inr (Or.inr w45)) (su_gn w45)
        rw [e]
        dsimp only
        rw [e1]
        dsimp only
        rw [e3]
        exact Or.inr ⟨_, rfl, _, _, _, rfl, i⟩
      · rw [if_pos q45]
        by_cases q42 : U 90 3 = 3 ∧ U 90 5 = 42
        · rw [if_neg (fun q => q q42)]
          have w42 := g42.mp q42
          obtain ⟨y, U1, U3, e, e1, e3, i⟩ := opr 4 (Or.inl w42) (su_gn w42)
          rw [e]
          dsimp only
          rw [e1]
          dsimp only
          rw [e3]
          exact Or.inr ⟨_, rfl, _, _, _, rfl, i⟩
        · rw [if_pos q42]
          refine Or.inr ⟨_, rfl, _, _, _, rfl, fin ?_ n41⟩
          rintro (a | a | a)
          · exact q42 (g42.mpr a)
          · exact q43 (g43.mpr a)
          · exact q45 (g45.mpr a)
theorem su_l13 (V0 : pm_M) {x : su_X} {W : pm_M} {p : Int} : ∀ (q : Int × pm_M), (0 ≤ q.1 ∧ q.1 ≤ 8 ∧ su_h W q.2 ∧ p ≤ q.2 90 4 + 1 ∧ ∃ z, su_R z.1 q.2 ∧ su_R z.1 z.2 ∧ su_to true 0 x true q.1.toNat z) → (∃ o1 m1 U1, pf_val (.inr ((0 : Int), V0)) (su_b13 V0) q = .inl (o1, m1, U1) ∧ su_I9 x W p o1 m1 U1) ∨ (∃ U1, pf_val (.inr ((0 : Int), V0)) (su_b13 V0) q = .inr (0, U1) ∧ su_h W U1 ∧ ∃ xf, su_R xf.1 U1 ∧ su_R xf.1 xf.2 ∧ su_fail true 0 x xf) := by
  refine pf_val_ind2 (fun (q : Int × pm_M) => 0 ≤ q.1 ∧ q.1 ≤ 8 ∧ su_h W q.2 ∧ p ≤ q.2 90 4 + 1 ∧ ∃ z, su_R z.1 q.2 ∧ su_R z.1 z.2 ∧ su_to true 0 x true q.1.toNat z) (fun (r : (Int × Int × pm_M) ⊕ (Int × pm_M)) => (∃ o1 m1 U1, r = .inl (o1, m1, U1) ∧ su_I9 x W p o1 m1 U1) ∨ (∃ U1, r = .inr (0, U1) ∧ su_h W U1 ∧ ∃ xf, su_R xf.1 U1 ∧ su_R xf.1 xf.2 ∧ su_fail true 0 x xf)) (fun q => (501 - q.2 90 4).toNat) ?_
  rintro ⟨o, U⟩ ⟨o0, o8, hU, pU, z, z1, z2, z3⟩
  dsimp only at o0 o8 hU pU z1 z3
  have pl := su_pl z1
  have g40 := su_rg (c := 40) z1 (by decide)
  have hk := z1.2.flat
  unfold su_b13
  simp only [pf_let, pf_call, r_isSign, su_ite]
  by_cases q40r : U 90 3 = 3 ∧ U 90 5 = 40
  · rw [if_neg (fun q => q q40r)]
    have q40 := g40.mp q40r
    by_cases q8 : o = 8
    · rw [if_neg (fun q => q q8)]
      exact Or.inr ⟨_, rfl, Or.inr ⟨_, rfl, hU, z, z1, z2, z3.fail (su_fail_E (su_g_at q40) (fun q => absurd q.2 (by omega)))⟩⟩
    · rw [if_pos q8]
      have f2 : su_e U (pm_up (pm_up U 109 (U 90 39 : Int).toNat (-1)) 90 39 (U 90 39 + 1)) := su_e.ps
      obtain ⟨U3, e3, h3, f3, p3⟩ := su_st_r (x := z) (f2.R z1)
      rw [e3]
      dsimp only
      have pp := pl.2.2 (su_gn q40)
      rw [f2.2 2 (by decide) (by decide)] at p3
      refine Or.inl ⟨_, rfl, ⟨by show 0 ≤ o + 1; omega, by show o + 1 ≤ 8; omega, (hU.tr f2.h).tr (su_h.tk f3), by show p ≤ U3 90 4 + 1; omega, su_st z, h3, su_st_x z2, ?_⟩, by show (501 - U3 90 4).toNat < (501 - U 90 4).toNat; omega⟩
      have k := z3.tr (su_to_op q40 (by omega))
      rw [show o.toNat + 1 = (o + 1).toNat by omega] at k
      exact k
  · rw [if_pos q40r]
    have q40 : ¬ su_g 40 z.1 := fun q => q40r (g40.mpr q)
    by_cases k2 : U 90 3 = 2
    · rw [if_neg (fun q => q k2)]
      have v2 : z.1 3 1 = 2 := hk.2.2.1.mpr k2
      rcases sm_number (a := 0) (b := 9999) z1.1 z1.2 (by decide) with ⟨a1, a2⟩ | ⟨v, V1, W1, b1, b2, b3, b4, b5, b6, b7, b8, b9, b10, b11, b12⟩
      · rw [a2]
        dsimp only
        rw [if_neg (fun q => q rfl)]
        refine Or.inr ⟨_, rfl, Or.inr ⟨_, rfl, hU, z, z1, z2, z3.fail (su_fail_E ?_ (fun q => q40 q.1))⟩⟩
        rintro (⟨-, c1, c2⟩ | ⟨c1, -⟩)
        · rw [c_isNumber, if_pos ⟨v2, c1, c2⟩] at a1
          exact absurd (Prod.mk.inj a1).1 (by decide)
        · rw [v2] at c1
          exact absurd c1 (by decide)
      · rw [b6]
        dsimp only
        rw [if_pos (by decide)]
        obtain ⟨U2, e2, f2, -⟩ := su_lay 0 (W1 90 37) W1
        rw [e2]
        dsimp only
        have at1 : su_at z.1 := Or.inl ⟨v2, by rw [b3]; exact ⟨b1, b2⟩⟩
        have st1 : (su_st z).1 = V1 := by unfold su_st; rw [b5]
        have hW : su_h U W1 := ⟨fun k a _ _ => b9 k a, fun i a b c d _ e _ => b10 i a b c d e⟩
        have l1 := b12.ln
        have l0 := z1.2.ln
        obtain ⟨V2, W2, s1, s2, s3, s4, s5, s6⟩ := su_nx z1
        have e21 : V2 = V1 := (Prod.mk.inj (s1.symm.trans b5)).2
        subst e21
        have pp := pl.2.2 (by rw [v2]; decide)
        have f24 := f2.2 4 (by decide) (by decide)
        have k := su_l115 V0 (x := x) (W := W) (p := p) (o, U2) ⟨o0, o8, (hU.tr hW).tr f2.h, by show p ≤ U2 90 4; rw [f24]; omega, su_st z, by rw [st1]; exact f2.R ⟨b11, b12⟩, su_st_x z2, z3.tr (su_to_at at1)⟩
        obtain ⟨o1, m1, U4, k1, k3⟩ := k
        rw [k1]
        exact Or.inr ⟨_, rfl, Or.inl ⟨_, _, _, rfl, k3⟩⟩
    · rw [if_pos k2]
      obtain ⟨n, e, i⟩ := su_name z1 k2
      rw [e]
      dsimp only
      by_cases qn : n = -1
      · rw [if_neg (fun q => q qn)]
        exact Or.inr ⟨_, rfl, Or.inr ⟨_, rfl, hU, z, z1, z2, z3.fail (su_fail_E (fun q => (i.mpr q) qn) (fun q => q40 q.1))⟩⟩
      · rw [if_pos qn]
        obtain ⟨U2, e2, f2, -⟩ := su_lay 1 n U
        rw [e2]
        dsimp only
        obtain ⟨U3, e3, h3, f3, p3⟩ := su_st_r (x := z) (f2.R z1)
        rw [e3]
        dsimp only
        have at1 := i.mp qn
        have pp := pl.2.2 (su_atn at1)
        rw [f2.2 2 (by decide) (by decide)] at p3
        have k := su_l115 V0 (x := x) (W := W) (p := p) (o, U3) ⟨o0, o8, (hU.tr f2.h).tr (su_h.tk f3), by show p ≤ U3 90 4; omega, su_st z, h3, su_st_x z2, z3.tr (su_to_at at1)⟩
        obtain ⟨o1, m1, U4, k1, k3⟩ := k
        rw [k1]
        exact Or.inr ⟨_, rfl, Or.inl ⟨_, _, _, rfl, k3⟩⟩
